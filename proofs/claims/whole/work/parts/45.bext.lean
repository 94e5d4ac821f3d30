/-! ===== extremes and sums over the rows of a piece ===== -/
def rowOf (D : KD) (e : Nat) (f : Int → Int) : Prop := ∀ j : Nat, j < e → ∀ i, 0 ≤ i → i < kR D j → f (tp D j + i) = sS D j i
theorem sS_btw {D : KD} {n k : Nat} {i : Int} (hK : KOK D n) (hk : k < n) (hw : why D k = 0) (hH : kH D k = -1) (hs : shp D k ≠ 0) (i0 : 0 ≤ i) (i1 : i < kR D k) :
    kK D k = 2 ∧ ((hv D k ≤ sS D k i ∧ sS D k i ≤ hv D (k + 1)) ∨ (hv D (k + 1) ≤ sS D k i ∧ sS D k i ≤ hv D k)) := by
  have kk := hK k hk
  have hkd : kK D k = 2 := by
    by_cases y : kK D k = 2
    · exact y
    · exact absurd (show shp D k = 0 from if_pos (Or.inl y)) hs
  have p1 := kk.2.2.2.2.2.2.2.1 hkd
  have w := why0_shape hkd p1.1 hH hw
  have a := ab_shp hkd p1.1 w.1
  have b := shp_bd hK hk
  have u := up_dn (n := shp D k) (R := kR D k) (q := i) (by omega) w.2 i0
  have d := dn_bd (n := shp D k) (R := kR D k) (q := i + 1) (by omega) w.2 (by omega) (by omega)
  have m1 : kP D k * dnF (shp D k) (kR D k) (i + 1) ≤ kP D k * shp D k := Int.mul_le_mul_of_nonneg_left d.2 (by omega)
  have m2 : 0 ≤ kP D k * dnF (shp D k) (kR D k) (i + 1) := Int.mul_nonneg (by omega) d.1
  refine ⟨hkd, ?_⟩
  unfold ab at a
  unfold sS
  rw [if_neg (fun y => y hH), if_neg hs, u]
  generalize kP D k * dnF (shp D k) (kR D k) (i + 1) = q at *
  by_cases y : hv D k < hv D (k + 1)
  · rw [if_pos y]; rw [if_pos (by omega)] at a; omega
  · rw [if_neg y]
    by_cases z : 0 ≤ hv D (k + 1) - hv D k
    · rw [if_pos z] at a; omega
    · rw [if_neg z] at a; omega
/-- the stitches behind a part are behind some row -/
theorem hv_att {D : KD} {n e : Nat} (hK : KOK D n) (he : e ≤ n) (hw : ∀ j, j < e → why D j = 0) : ∀ j : Nat, j < e → ∃ (l : Nat) (i : Int), l < e ∧ 0 ≤ i ∧ i < kR D l ∧ sS D l i = hv D (j + 1)
  | 0, hj => by
    have r := (hK 0 (by omega)).2.2.2.2.1 ((hK 0 (by omega)).2.1.mpr rfl)
    have e0 : kR D ((0 : Nat) : Int) = 1 := r
    exact ⟨0, kR D ((0 : Nat) : Int) - 1, hj, by omega, by omega, sS_last hK (by omega) (hw 0 hj) (by omega)⟩
  | j + 1, hj => by
    by_cases z : kR D (j + 1 : Nat) = 0
    · obtain ⟨l, i, q1, q2, q3, q4⟩ := hv_att hK he hw j (by omega)
      exact ⟨l, i, q1, q2, q3, by rw [q4, hv_R0 hK (k := j + 1) (by omega) (hw _ hj) z]⟩
    · have r := (hK (j + 1) (by omega)).2.2.2.1
      exact ⟨j + 1, kR D (j + 1 : Nat) - 1, hj, by omega, by omega, sS_last hK (by omega) (hw _ hj) (by omega)⟩

theorem mxF_spec (f : Int → Int) : ∀ (m : Nat) (i a : Int), a ≤ mxF f m i a ∧ (∀ j, i ≤ j → j < i + m → f j ≤ mxF f m i a) ∧ (mxF f m i a = a ∨ ∃ j, i ≤ j ∧ j < i + m ∧ mxF f m i a = f j)
  | 0, i, a => by unfold mxF; exact ⟨Int.le_refl _, fun j h1 h2 => by omega, Or.inl rfl⟩
  | m + 1, i, a => by
    have ih := mxF_spec f m (i + 1) (max a (f i))
    unfold mxF
    refine ⟨by omega, fun j h1 h2 => ?_, ?_⟩
    · by_cases z : j = i
      · subst z; omega
      · exact ih.2.1 j (by omega) (by omega)
    · rcases ih.2.2 with z | ⟨j, j1, j2, j3⟩
      · by_cases y : max a (f i) = a
        · left; rw [z, y]
        · right; exact ⟨i, by omega, by omega, by omega⟩
      · right; exact ⟨j, by omega, by omega, j3⟩
theorem gMx_spec (D : KD) : ∀ (m k : Nat) (a : Int), a ≤ gMx D m k a ∧ (∀ j : Nat, k ≤ j → j < k + m → hv D (j + 1) ≤ gMx D m k a ∧ (kH D j ≠ -1 ∧ 0 < kR D j → rpt D j * mMx D j ≤ gMx D m k a)) ∧
    (gMx D m k a = a ∨ ∃ j : Nat, k ≤ j ∧ j < k + m ∧ (gMx D m k a = hv D (j + 1) ∨ ((kH D j ≠ -1 ∧ 0 < kR D j) ∧ gMx D m k a = rpt D j * mMx D j)))
  | 0, k, a => by unfold gMx; exact ⟨Int.le_refl _, fun j h1 h2 => by omega, Or.inl rfl⟩
  | m + 1, k, a => by
    unfold gMx
    by_cases c : kH D k ≠ -1 ∧ 0 < kR D k
    · rw [if_pos c]
      have ih := gMx_spec D m (k + 1) (max (max a (hv D (k + 1))) (rpt D k * mMx D k))
      refine ⟨by omega, fun j h1 h2 => ?_, ?_⟩
      · by_cases z : j = k
        · subst z; exact ⟨by omega, fun _ => by omega⟩
        · exact ih.2.1 j (by omega) (by omega)
      · rcases ih.2.2 with z | ⟨j, j1, j2, j3⟩
        · by_cases y : max (max a (hv D (k + 1))) (rpt D k * mMx D k) = a
          · left; rw [z, y]
          · right
            by_cases x : max (max a (hv D (k + 1))) (rpt D k * mMx D k) = hv D (k + 1)
            · exact ⟨k, by omega, by omega, Or.inl (by rw [z, x])⟩
            · exact ⟨k, by omega, by omega, Or.inr ⟨c, by omega⟩⟩
        · right; exact ⟨j, by omega, by omega, j3⟩
    · rw [if_neg c]
      have ih := gMx_spec D m (k + 1) (max a (hv D (k + 1)))
      refine ⟨by omega, fun j h1 h2 => ?_, ?_⟩
      · by_cases z : j = k
        · subst z; exact ⟨by omega, fun y => absurd y c⟩
        · exact ih.2.1 j (by omega) (by omega)
      · rcases ih.2.2 with z | ⟨j, j1, j2, j3⟩
        · by_cases y : max a (hv D (k + 1)) = a
          · left; rw [z, y]
          · right; exact ⟨k, by omega, by omega, Or.inl (by omega)⟩
        · right; exact ⟨j, by omega, by omega, j3⟩
/-- the rows of a chart in use: a bound of all, and one that is it -/
theorem mMx_at {D : KD} {n k : Nat} (hK : KOK D n) (hk : k < n) (hH : kH D k ≠ -1) : (∀ i, 0 ≤ i → i < kN D k → kM D k i ≤ mMx D k) ∧ ∃ i, 0 ≤ i ∧ i < kN D k ∧ mMx D k = kM D k i := by
  obtain ⟨z1, z2, z3, z4, z5, z6, z7⟩ : kK D k = 1 ∧ (0 ≤ kH D k ∧ kH D k ≤ 3) ∧ (1 ≤ kW D k ∧ kW D k ≤ 36) ∧ (1 ≤ kN D k ∧ kN D k ≤ 8) ∧ kR D k % kN D k = 0 ∧ (∀ i, 0 ≤ i → i < kN D k → 1 ≤ kM D k i ∧ kM D k i ≤ 12) ∧ kM D k (kN D k - 1) = kW D k := by
    rcases (hK k hk).2.2.2.2.2.2.1 with y | y
    · exact absurd y hH
    · exact y
  unfold mMx
  have s := mxF_spec (kM D k) (kN D k - 0).toNat 0 0
  refine ⟨fun i i0 i1 => s.2.1 i (by omega) (by omega), ?_⟩
  rcases s.2.2 with y | ⟨j, j1, j2, j3⟩
  · have a := s.2.1 0 (by omega) (by omega)
    have b := z6 0 (by omega) (by omega)
    omega
  · exact ⟨j, j1, by omega, j3⟩
theorem gMx_rows {D : KD} {n e : Nat} {f : Int → Int} {x : Int} (hK : KOK D n) (he : e ≤ n) (h0 : 0 < e) (hw : ∀ j, j < e → why D j = 0) (hf : rowOf D e f) (hx : ∃ r, 0 ≤ r ∧ r < tp D e ∧ f r = x) (hx2 : ∀ r, 0 ≤ r → r < tp D e → f r ≤ x) : x = gMx D e 0 0 := by
  have sp := gMx_spec D e 0 0
  have hvl : ∀ j : Nat, j < e → hv D (j + 1) ≤ gMx D e 0 0 := fun j hj => by
    exact (sp.2.1 j (by omega) (by omega)).1
  have rowl : ∀ j : Nat, j < e → ∀ i, 0 ≤ i → i < kR D j → sS D j i ≤ gMx D e 0 0 := by
    intro j hj i i0 i1
    by_cases hH : kH D j = -1
    · by_cases hs : shp D j = 0
      · rw [sS_even hH hs]; exact hvl j hj
      · obtain ⟨b1, b2⟩ := sS_btw hK (by omega) (hw j hj) hH hs i0 i1
        have v1 := hvl j hj
        have j0 : j ≠ 0 := fun z => by have := (hK j (by omega)).2.1.mpr (by rw [z]); omega
        have v2 := hvl (j - 1) (by omega)
        rw [show j - 1 + 1 = j by omega] at v2
        omega
    · have mm := (mMx_at hK (show j < n by omega) hH).1
      have rp := rpt_bd hK (show j < n by omega)
      have kn : 1 ≤ kN D j := by
        rcases (hK j (by omega)).2.2.2.2.2.2.1 with y | y
        · exact absurd y hH
        · exact y.2.2.2.1.1
      have v : rpt D j * mMx D j ≤ gMx D e 0 0 := by
        exact (sp.2.1 j (by omega) (by omega)).2 ⟨hH, by omega⟩
      have t := tm_bd (x := i) (y := kN D j) i0 (by omega)
      have m := mm _ t.1 t.2.1
      have m2 : rpt D j * kM D j (i.tmod (kN D j)) ≤ rpt D j * mMx D j := Int.mul_le_mul_of_nonneg_left m rp.1
      unfold sS
      rw [if_pos hH, if_neg (by omega)]
      omega
  have att : ∃ (l : Nat) (i : Int), l < e ∧ 0 ≤ i ∧ i < kR D l ∧ sS D l i = gMx D e 0 0 := by
    have key : ∀ j : Nat, j < e → (gMx D e 0 0 = hv D (j + 1) ∨ ((kH D j ≠ -1 ∧ 0 < kR D j) ∧ gMx D e 0 0 = rpt D j * mMx D j)) → ∃ (l : Nat) (i : Int), l < e ∧ 0 ≤ i ∧ i < kR D l ∧ sS D l i = gMx D e 0 0 := by
      intro j hj hor
      rcases hor with z | ⟨c, z⟩
      · rw [z]; exact hv_att hK he hw j hj
      · obtain ⟨i, i0, i1, i2⟩ := (mMx_at hK (show j < n by omega) c.1).2
        have kd := (hK j (by omega)).2.2.2.2.2.2.1
        have hR : kN D j ≤ kR D j := by
          rcases kd with y | y
          · exact absurd y c.1
          · have f := Int.mul_ediv_add_emod (kR D j) (kN D j)
            have y5 := y.2.2.2.2.1
            have y4 := y.2.2.2.1
            have q1 : 1 ≤ kR D j / kN D j := by
              by_cases w : 1 ≤ kR D j / kN D j
              · exact w
              · have w0 : kR D j / kN D j = 0 := by have := Int.ediv_nonneg (show 0 ≤ kR D j by omega) (show 0 ≤ kN D j by omega); omega
                rw [w0, Int.mul_zero] at f; omega
            have := Int.mul_le_mul_of_nonneg_left q1 (show 0 ≤ kN D j by omega)
            omega
        refine ⟨j, i, hj, i0, by omega, ?_⟩
        unfold sS
        rw [if_pos c.1, if_neg (by omega), Int.tmod_eq_emod_of_nonneg i0, Int.emod_eq_of_lt i0 i1, z, i2]
    rcases sp.2.2 with z | ⟨j, j1, j2, j3⟩
    · have a := hvl 0 h0
      have b := (hv_bd hK 1 (by omega)).2.2 (by decide)
      have c : hv D (0 + 1) = hv D 1 := rfl
      omega
    · exact key j (by omega) j3
  obtain ⟨r, r0, r1, r2⟩ := hx
  obtain ⟨k, k1, k2, k3⟩ := row_part e r r0 r1
  have e1 := hf k k1 (r - tp D k) (by omega) (by have : tp D (k + 1) = tp D k + kR D k := rfl; omega)
  rw [show tp D k + (r - tp D k) = r by omega, r2] at e1
  have u1 := rowl k k1 (r - tp D k) (by omega) (by have : tp D (k + 1) = tp D k + kR D k := rfl; omega)
  obtain ⟨l, i, q1, q2, q3, q4⟩ := att
  have t0 := tp_bd hK l (by omega)
  have tl : tp D (l + 1) ≤ tp D e := tp_le hK (by omega) (by omega)
  have u2 := hx2 (tp D l + i) (by omega) (by have : tp D (l + 1) = tp D l + kR D l := rfl; omega)
  rw [hf l q1 i q2 q3, q4] at u2
  omega

theorem mnF_spec (f : Int → Int) : ∀ (m : Nat) (i a : Int), mnF f m i a ≤ a ∧ (∀ j, i ≤ j → j < i + m → mnF f m i a ≤ f j) ∧ (mnF f m i a = a ∨ ∃ j, i ≤ j ∧ j < i + m ∧ mnF f m i a = f j)
  | 0, i, a => by unfold mnF; exact ⟨Int.le_refl _, fun j h1 h2 => by omega, Or.inl rfl⟩
  | m + 1, i, a => by
    have ih := mnF_spec f m (i + 1) (min a (f i))
    unfold mnF
    refine ⟨by omega, fun j h1 h2 => ?_, ?_⟩
    · by_cases z : j = i
      · subst z; omega
      · exact ih.2.1 j (by omega) (by omega)
    · rcases ih.2.2 with z | ⟨j, j1, j2, j3⟩
      · by_cases y : min a (f i) = a
        · left; rw [z, y]
        · right; exact ⟨i, by omega, by omega, by omega⟩
      · right; exact ⟨j, by omega, by omega, j3⟩
theorem gMn_spec (D : KD) : ∀ (m k : Nat) (a : Int), gMn D m k a ≤ a ∧ (∀ j : Nat, k ≤ j → j < k + m → gMn D m k a ≤ hv D (j + 1) ∧ (kH D j ≠ -1 ∧ 0 < kR D j → gMn D m k a ≤ rpt D j * mMn D j)) ∧
    (gMn D m k a = a ∨ ∃ j : Nat, k ≤ j ∧ j < k + m ∧ (gMn D m k a = hv D (j + 1) ∨ ((kH D j ≠ -1 ∧ 0 < kR D j) ∧ gMn D m k a = rpt D j * mMn D j)))
  | 0, k, a => by unfold gMn; exact ⟨Int.le_refl _, fun j h1 h2 => by omega, Or.inl rfl⟩
  | m + 1, k, a => by
    unfold gMn
    by_cases c : kH D k ≠ -1 ∧ 0 < kR D k
    · rw [if_pos c]
      have ih := gMn_spec D m (k + 1) (min (min a (hv D (k + 1))) (rpt D k * mMn D k))
      refine ⟨by omega, fun j h1 h2 => ?_, ?_⟩
      · by_cases z : j = k
        · subst z; exact ⟨by omega, fun _ => by omega⟩
        · exact ih.2.1 j (by omega) (by omega)
      · rcases ih.2.2 with z | ⟨j, j1, j2, j3⟩
        · by_cases y : min (min a (hv D (k + 1))) (rpt D k * mMn D k) = a
          · left; rw [z, y]
          · right
            by_cases x : min (min a (hv D (k + 1))) (rpt D k * mMn D k) = hv D (k + 1)
            · exact ⟨k, by omega, by omega, Or.inl (by rw [z, x])⟩
            · exact ⟨k, by omega, by omega, Or.inr ⟨c, by omega⟩⟩
        · right; exact ⟨j, by omega, by omega, j3⟩
    · rw [if_neg c]
      have ih := gMn_spec D m (k + 1) (min a (hv D (k + 1)))
      refine ⟨by omega, fun j h1 h2 => ?_, ?_⟩
      · by_cases z : j = k
        · subst z; exact ⟨by omega, fun y => absurd y c⟩
        · exact ih.2.1 j (by omega) (by omega)
      · rcases ih.2.2 with z | ⟨j, j1, j2, j3⟩
        · by_cases y : min a (hv D (k + 1)) = a
          · left; rw [z, y]
          · right; exact ⟨k, by omega, by omega, Or.inl (by omega)⟩
        · right; exact ⟨j, by omega, by omega, j3⟩
/-- the rows of a chart in use: a bound of all, and one that is it -/
theorem mMn_at {D : KD} {n k : Nat} (hK : KOK D n) (hk : k < n) (hH : kH D k ≠ -1) : (∀ i, 0 ≤ i → i < kN D k → mMn D k ≤ kM D k i) ∧ ∃ i, 0 ≤ i ∧ i < kN D k ∧ mMn D k = kM D k i := by
  obtain ⟨z1, z2, z3, z4, z5, z6, z7⟩ : kK D k = 1 ∧ (0 ≤ kH D k ∧ kH D k ≤ 3) ∧ (1 ≤ kW D k ∧ kW D k ≤ 36) ∧ (1 ≤ kN D k ∧ kN D k ≤ 8) ∧ kR D k % kN D k = 0 ∧ (∀ i, 0 ≤ i → i < kN D k → 1 ≤ kM D k i ∧ kM D k i ≤ 12) ∧ kM D k (kN D k - 1) = kW D k := by
    rcases (hK k hk).2.2.2.2.2.2.1 with y | y
    · exact absurd y hH
    · exact y
  unfold mMn
  have s := mnF_spec (kM D k) (kN D k - 1).toNat 1 (kM D k 0)
  refine ⟨fun i i0 i1 => ?_, ?_⟩
  · by_cases y : i = 0
    · subst y; exact s.1
    · exact s.2.1 i (by omega) (by omega)
  rcases s.2.2 with y | ⟨j, j1, j2, j3⟩
  · exact ⟨0, by omega, by omega, y⟩
  · exact ⟨j, by omega, by omega, j3⟩
theorem gMn_rows {D : KD} {n e : Nat} {f : Int → Int} {x : Int} (hK : KOK D n) (he : e ≤ n) (h0 : 0 < e) (hw : ∀ j, j < e → why D j = 0) (hf : rowOf D e f) (hx : ∃ r, 0 ≤ r ∧ r < tp D e ∧ f r = x) (hx2 : ∀ r, 0 ≤ r → r < tp D e → x ≤ f r) : x = gMn D (e - 1) 1 (hv D (0 + 1)) := by
  have sp := gMn_spec D (e - 1) 1 (hv D (0 + 1))
  have hvl : ∀ j : Nat, j < e → gMn D (e - 1) 1 (hv D (0 + 1)) ≤ hv D (j + 1) := fun j hj => by
    by_cases y : j = 0
    · subst y; exact sp.1
    · exact (sp.2.1 j (by omega) (by omega)).1
  have rowl : ∀ j : Nat, j < e → ∀ i, 0 ≤ i → i < kR D j → gMn D (e - 1) 1 (hv D (0 + 1)) ≤ sS D j i := by
    intro j hj i i0 i1
    by_cases hH : kH D j = -1
    · by_cases hs : shp D j = 0
      · rw [sS_even hH hs]; exact hvl j hj
      · obtain ⟨b1, b2⟩ := sS_btw hK (by omega) (hw j hj) hH hs i0 i1
        have v1 := hvl j hj
        have j0 : j ≠ 0 := fun z => by have := (hK j (by omega)).2.1.mpr (by rw [z]); omega
        have v2 := hvl (j - 1) (by omega)
        rw [show j - 1 + 1 = j by omega] at v2
        omega
    · have mm := (mMn_at hK (show j < n by omega) hH).1
      have rp := rpt_bd hK (show j < n by omega)
      have kn : 1 ≤ kN D j := by
        rcases (hK j (by omega)).2.2.2.2.2.2.1 with y | y
        · exact absurd y hH
        · exact y.2.2.2.1.1
      have v : gMn D (e - 1) 1 (hv D (0 + 1)) ≤ rpt D j * mMn D j := by
        have j0 : j ≠ 0 := fun z => hH (by
          rcases (hK j (by omega)).2.2.2.2.2.2.1 with y | y
          · exact y
          · have := (hK j (by omega)).2.1.mpr (by rw [z]); have := y.1; omega)
        exact (sp.2.1 j (by omega) (by omega)).2 ⟨hH, by omega⟩
      have t := tm_bd (x := i) (y := kN D j) i0 (by omega)
      have m := mm _ t.1 t.2.1
      have m2 : rpt D j * mMn D j ≤ rpt D j * kM D j (i.tmod (kN D j)) := Int.mul_le_mul_of_nonneg_left m rp.1
      unfold sS
      rw [if_pos hH, if_neg (by omega)]
      omega
  have att : ∃ (l : Nat) (i : Int), l < e ∧ 0 ≤ i ∧ i < kR D l ∧ sS D l i = gMn D (e - 1) 1 (hv D (0 + 1)) := by
    have key : ∀ j : Nat, j < e → (gMn D (e - 1) 1 (hv D (0 + 1)) = hv D (j + 1) ∨ ((kH D j ≠ -1 ∧ 0 < kR D j) ∧ gMn D (e - 1) 1 (hv D (0 + 1)) = rpt D j * mMn D j)) → ∃ (l : Nat) (i : Int), l < e ∧ 0 ≤ i ∧ i < kR D l ∧ sS D l i = gMn D (e - 1) 1 (hv D (0 + 1)) := by
      intro j hj hor
      rcases hor with z | ⟨c, z⟩
      · rw [z]; exact hv_att hK he hw j hj
      · obtain ⟨i, i0, i1, i2⟩ := (mMn_at hK (show j < n by omega) c.1).2
        have kd := (hK j (by omega)).2.2.2.2.2.2.1
        have hR : kN D j ≤ kR D j := by
          rcases kd with y | y
          · exact absurd y c.1
          · have f := Int.mul_ediv_add_emod (kR D j) (kN D j)
            have y5 := y.2.2.2.2.1
            have y4 := y.2.2.2.1
            have q1 : 1 ≤ kR D j / kN D j := by
              by_cases w : 1 ≤ kR D j / kN D j
              · exact w
              · have w0 : kR D j / kN D j = 0 := by have := Int.ediv_nonneg (show 0 ≤ kR D j by omega) (show 0 ≤ kN D j by omega); omega
                rw [w0, Int.mul_zero] at f; omega
            have := Int.mul_le_mul_of_nonneg_left q1 (show 0 ≤ kN D j by omega)
            omega
        refine ⟨j, i, hj, i0, by omega, ?_⟩
        unfold sS
        rw [if_pos c.1, if_neg (by omega), Int.tmod_eq_emod_of_nonneg i0, Int.emod_eq_of_lt i0 i1, z, i2]
    rcases sp.2.2 with z | ⟨j, j1, j2, j3⟩
    · exact key 0 h0 (Or.inl z)
    · exact key j (by omega) j3
  obtain ⟨r, r0, r1, r2⟩ := hx
  obtain ⟨k, k1, k2, k3⟩ := row_part e r r0 r1
  have e1 := hf k k1 (r - tp D k) (by omega) (by have : tp D (k + 1) = tp D k + kR D k := rfl; omega)
  rw [show tp D k + (r - tp D k) = r by omega, r2] at e1
  have u1 := rowl k k1 (r - tp D k) (by omega) (by have : tp D (k + 1) = tp D k + kR D k := rfl; omega)
  obtain ⟨l, i, q1, q2, q3, q4⟩ := att
  have t0 := tp_bd hK l (by omega)
  have tl : tp D (l + 1) ≤ tp D e := tp_le hK (by omega) (by omega)
  have u2 := hx2 (tp D l + i) (by omega) (by have : tp D (l + 1) = tp D l + kR D l := rfl; omega)
  rw [hf l q1 i q2 q3, q4] at u2
  omega

theorem sAll_sum (D : KD) : ∀ (m k : Nat) (a : Int), sAll D m k a = a + sumN (fun j => sO D (k + j)) m
  | 0, k, a => by unfold sAll sumN; omega
  | m + 1, k, a => by
    unfold sAll
    rw [sAll_sum D m (k + 1), sumN_cons (fun j => sO D (k + j)) m]
    rw [sumN_congr (f := fun j => sO D (k + 1 + j)) (g := fun j => sO D (k + (j + 1))) (m := m) (fun j _ => by show sO D (k + 1 + j) = sO D (k + (j + 1)); rw [show k + 1 + j = k + (j + 1) by omega])]
    show a + sO D k + _ = a + (sO D (k + 0) + _)
    rw [Nat.add_zero]; omega
theorem sCol_sum (D : KD) (c : Int) : ∀ (m k : Nat) (a : Int), sCol D c m k a = a + sumN (fun j => if kC D ((k + j : Nat) : Int) = c then sO D (k + j) else 0) m
  | 0, k, a => by unfold sCol sumN; omega
  | m + 1, k, a => by
    unfold sCol
    rw [sCol_sum D c m (k + 1), sumN_cons (fun j => if kC D ((k + j : Nat) : Int) = c then sO D (k + j) else 0) m]
    rw [sumN_congr (f := fun j => if kC D ((k + 1 + j : Nat) : Int) = c then sO D (k + 1 + j) else 0) (g := fun j => if kC D ((k + (j + 1) : Nat) : Int) = c then sO D (k + (j + 1)) else 0) (m := m) (fun j _ => by
      show (if kC D ((k + 1 + j : Nat) : Int) = c then sO D (k + 1 + j) else 0) = (if kC D ((k + (j + 1) : Nat) : Int) = c then sO D (k + (j + 1)) else 0)
      rw [show k + 1 + j = k + (j + 1) by omega])]
    show (if kC D (k : Nat) = c then a + sO D k else a) + _ = a + ((if kC D ((k + 0 : Nat) : Int) = c then sO D (k + 0) else 0) + _)
    rw [Nat.add_zero]
    split <;> omega
theorem rows_sum {D : KD} {n : Nat} {g : Nat → Int} (hK : KOK D n) : ∀ e : Nat, e ≤ n → (∀ j, j < e → why D j = 0) → (∀ j : Nat, j < e → ∀ i, 0 ≤ i → i < kR D j → g (tp D j + i).toNat = sS D j i) → sumN g (tp D e).toNat = sAll D e 0 0
  | 0, _, _, _ => by rfl
  | e + 1, he, hw, hg => by
    have t0 := tp_bd hK e (by omega)
    have R0 := (hK e (by omega)).2.2.2.1
    have ih := rows_sum hK e (by omega) (fun j hj => hw j (by omega)) (fun j hj => hg j (by omega))
    rw [show (tp D (e + 1)).toNat = (tp D e).toNat + (kR D e).toNat by have : tp D (e + 1) = tp D e + kR D e := rfl; omega, sumN_app, ih, sAll_sum, sAll_sum]
    show _ = 0 + (sumN (fun j => sO D (0 + j)) e + sO D (0 + e))
    rw [sumN_congr (f := fun j => g ((tp D e).toNat + j)) (g := fun q => sS D e q) (m := (kR D (e : Nat)).toNat) (fun j hj => by
      show g ((tp D e).toNat + j) = sS D e j
      have := hg e (by omega) (j : Int) (by omega) (by omega)
      rw [← this, show (tp D e + (j : Int)).toNat = (tp D e).toNat + j by omega]), sO_sum hK (by omega) (hw e (by omega)), Nat.zero_add]
    omega
