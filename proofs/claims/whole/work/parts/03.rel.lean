/-! ===== numbers: what a mathematical integer is as an int or a long ===== -/
theorem i_to {x : Int} (h : inR x) : (Int32.ofInt x).toInt = x := Int32.toInt_ofInt_of_le (by omega) (by omega)
theorem l_to {x : Int} (h : inRL x) : (Int64.ofInt x).toInt = x := Int64.toInt_ofInt_of_le (by omega) (by omega)
theorem i_rng (x : Int32) : inR x.toInt := ⟨by have := Int32.le_toInt x; omega, by have := Int32.toInt_lt x; omega⟩
theorem l_rng (x : Int64) : inRL x.toInt := ⟨by have := Int64.le_toInt x; omega, by have := Int64.toInt_lt x; omega⟩
theorem i_of (x : Int32) : Int32.ofInt x.toInt = x := Int32.ofInt_toInt x
theorem l_of (x : Int64) : Int64.ofInt x.toInt = x := Int64.ofInt_toInt x
theorem i_eq {a b : Int} (ha : inR a) (hb : inR b) : Int32.ofInt a = Int32.ofInt b ↔ a = b := ⟨fun h => by rw [← i_to ha, ← i_to hb, h], fun h => by rw [h]⟩
theorem i_lt {a b : Int} (ha : inR a) (hb : inR b) : Int32.ofInt a < Int32.ofInt b ↔ a < b := by rw [Int32.lt_iff_toInt_lt, i_to ha, i_to hb]
theorem i_le {a b : Int} (ha : inR a) (hb : inR b) : Int32.ofInt a ≤ Int32.ofInt b ↔ a ≤ b := by rw [Int32.le_iff_toInt_le, i_to ha, i_to hb]
theorem l_eq {a b : Int} (ha : inRL a) (hb : inRL b) : Int64.ofInt a = Int64.ofInt b ↔ a = b := ⟨fun h => by rw [← l_to ha, ← l_to hb, h], fun h => by rw [h]⟩
theorem l_lt {a b : Int} (ha : inRL a) (hb : inRL b) : Int64.ofInt a < Int64.ofInt b ↔ a < b := by rw [Int64.lt_iff_toInt_lt, l_to ha, l_to hb]
theorem l_le {a b : Int} (ha : inRL a) (hb : inRL b) : Int64.ofInt a ≤ Int64.ofInt b ↔ a ≤ b := by rw [Int64.le_iff_toInt_le, l_to ha, l_to hb]
theorem i_zero : Int32.ofInt 0 = 0 := by decide
theorem i_inj {x : Int32} {y : Int} (h : x.toInt = y) : x = Int32.ofInt y := by rw [← h, i_of]
theorem l_inj {x : Int64} {y : Int} (h : x.toInt = y) : x = Int64.ofInt y := by rw [← h, l_of]
theorem bm32 {y : Int} (h : inR y) : y.bmod (2 ^ 32) = y := Int.bmod_eq_of_le (by omega) (by omega)
theorem bm64 {y : Int} (h : inRL y) : y.bmod (2 ^ 64) = y := Int.bmod_eq_of_le (by omega) (by omega)
theorem i_div {a b : Int} (ha : inR a) (hb : inR b) (hc : inR (a.tdiv b)) : Int32.ofInt a / Int32.ofInt b = Int32.ofInt (a.tdiv b) := by
  refine i_inj ?_
  rw [Int32.toInt_div, i_to ha, i_to hb]
  exact bm32 hc
theorem i_rem {a b : Int} (ha : inR a) (hb : inR b) : Int32.ofInt a - Int32.ofInt a / Int32.ofInt b * Int32.ofInt b = Int32.ofInt (a.tmod b) := by
  refine i_inj ?_
  rw [rem_toInt, i_to ha, i_to hb]
theorem l_div {a b : Int} (ha : inRL a) (hb : inRL b) (hc : inRL (a.tdiv b)) : Int64.ofInt a / Int64.ofInt b = Int64.ofInt (a.tdiv b) := by
  refine l_inj ?_
  rw [Int64.toInt_div, l_to ha, l_to hb]
  exact bm64 hc
theorem tmod_rng {a b : Int} (ha : inR a) (hb : b ≠ 0) : inR (a.tmod b) := by
  have h1 : (a.tmod b).natAbs ≤ a.natAbs := by
    rw [Int.natAbs_tmod]; exact Nat.mod_le _ _
  have h3 : 0 ≤ a → 0 ≤ a.tmod b := fun h => Int.tmod_nonneg b h
  have h4 : 0 ≤ -a → 0 ≤ -(a.tmod b) := fun h => by rw [← Int.neg_tmod]; exact Int.tmod_nonneg b h
  omega
theorem tmod_rngL {a b : Int} (ha : inRL a) (hb : b ≠ 0) : inRL (a.tmod b) := by
  have h1 : (a.tmod b).natAbs ≤ a.natAbs := by
    rw [Int.natAbs_tmod]; exact Nat.mod_le _ _
  have h3 : 0 ≤ a → 0 ≤ a.tmod b := fun h => Int.tmod_nonneg b h
  have h4 : 0 ≤ -a → 0 ≤ -(a.tmod b) := fun h => by rw [← Int.neg_tmod]; exact Int.tmod_nonneg b h
  omega
theorem l_rem {a b : Int} (ha : inRL a) (hb : inRL b) (h0 : b ≠ 0) : Int64.ofInt a - Int64.ofInt a / Int64.ofInt b * Int64.ofInt b = Int64.ofInt (a.tmod b) := by
  by_cases hc : inRL (a.tdiv b)
  · rw [l_div ha hb hc, ← Int64.ofInt_mul, ← Int64.ofInt_sub]
    congr 1
    have := Int.mul_tdiv_add_tmod a b
    rw [Int.mul_comm] at this
    omega
  · have hb1 : b = -1 := by
      have e1 : (a.tdiv b).natAbs = a.natAbs / b.natAbs := Int.natAbs_tdiv a b
      by_cases hb2 : 2 ≤ b.natAbs
      · exfalso
        have : a.natAbs / b.natAbs ≤ a.natAbs / 2 := Nat.div_le_div_left hb2 (by decide)
        omega
      · have hbb : b = 1 ∨ b = -1 := by omega
        rcases hbb with rfl | rfl
        · rw [Int.tdiv_one] at hc; exact absurd ha hc
        · rfl
    subst hb1
    have h1 : Int64.ofInt (-1) = -1 := by decide
    have e0 : a.tmod (-1) = 0 := by rw [Int.tmod_neg, Int.tmod_one]
    have ha2 : a = -9223372036854775808 := by
      have : a.tdiv (-1) = -a := by rw [Int.tdiv_neg, Int.tdiv_one]
      omega
    subst ha2
    rw [e0]
    decide
theorem i_clamp {i : Int} (h0 : 0 ≤ i) (h : i ≤ 2147483647) : (Int32.ofInt i).toNatClampNeg = i.toNat := Int32.toNatClampNeg_ofInt_of_le (by omega) (by omega)
theorem i_in {i : Int} {len : Nat} (h0 : 0 ≤ i) (h1 : i ≤ 2147483647) (h : i < (len : Int)) : vp_in (Int32.ofInt i) len := by
  intro z
  rcases z with z | z
  · rw [show (0 : Int32) = Int32.ofInt 0 by decide, i_lt ⟨by omega, by omega⟩ ⟨by decide, by decide⟩] at z
    omega
  · rw [i_clamp h0 h1] at z
    omega
