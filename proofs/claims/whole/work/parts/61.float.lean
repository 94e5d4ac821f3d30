/-! ===== floats that are no NaN ===== -/
def okD (f : FP.Core.Fmt) : FP.Core.Datum → Prop
  | .nan => False
  | .inf _ => True
  | .fin _ c q => c < 2 ^ f.p ∧ f.qmin ≤ q ∧ q ≤ f.qmax
theorem ok_ratio {f : FP.Core.Fmt} (s : Bool) (num den : Nat) (e : Int) (hq : f.qmin ≤ f.qmax) (ht : f.tails < 2 ^ f.p) : okD f (FP.Core.roundRatio f s num den e) := by
  have p0 : 0 < 2 ^ f.p := Nat.two_pow_pos _
  unfold FP.Core.roundRatio
  split
  · exact ⟨p0, Int.le_refl _, hq⟩
  · unfold FP.Core.roundAt FP.Core.settle FP.Core.bound
    have q : f.qmin ≤ FP.Core.quantum f num den e := by unfold FP.Core.quantum; omega
    generalize FP.Core.quantum f num den e = r at *
    split
    · next z =>
      split
      · next y => exact ⟨z, q, y⟩
      · exact trivial
    · split
      · next y => exact ⟨ht, by omega, y⟩
      · exact trivial
theorem cst32 : FP.Core.b32.tails = 8388608 ∧ FP.Core.b32.exps = 256 ∧ FP.Core.b32.qmin = -149 ∧ FP.Core.b32.qmax = 104 ∧ FP.Core.b32.p = 24 ∧ 2 ^ FP.Core.b32.p = 16777216 := by decide
/-- bits that are no NaN -/
def nb32 (n : Nat) : Prop := n < 4294967296 ∧ n % 2147483648 ≤ 2139095040
theorem enc32 {d : FP.Core.Datum} (h : okD FP.Core.b32 d) : nb32 (FP.Core.encode FP.Core.b32 d) := by
  obtain ⟨t, e, q0, q1, -, tp⟩ := cst32
  cases d with
  | nan => exact h.elim
  | inf s =>
    unfold FP.Core.encode FP.Core.assemble nb32
    rw [t, e]
    cases s <;> decide
  | fin s c q =>
    obtain ⟨h1, h2, h3⟩ := h
    rw [tp] at h1
    rw [q0] at h2
    rw [q1] at h3
    unfold FP.Core.encode FP.Core.assemble nb32
    dsimp only
    rw [t, e, q0]
    have hs : s.toNat ≤ 1 := by cases s <;> decide
    generalize s.toNat = b at *
    split
    · next z => omega
    · next z => omega
theorem dec32 {n : Nat} (h : nb32 n) : FP.Core.decode FP.Core.b32 n ≠ .nan := by
  obtain ⟨t, e, -, -, -, -⟩ := cst32
  obtain ⟨h1, h2⟩ := h
  unfold FP.Core.decode FP.Core.fieldE FP.Core.fieldT
  rw [t, e]
  split
  · next z =>
    rw [if_pos (by omega)]
    intro y; cases y
  · split
    · intro y; cases y
    · intro y; cases y
/-- a number other than 0 -/
def nz32 (n : Nat) : Prop := ∃ s c q, FP.Core.decode FP.Core.b32 n = .fin s c q ∧ c ≠ 0
theorem encz32 {s : Bool} {c : Nat} {q : Int} (h : okD FP.Core.b32 (.fin s c q)) (hc : c ≠ 0) : nz32 (FP.Core.encode FP.Core.b32 (.fin s c q)) := by
  obtain ⟨t, e, q0, q1, -, tp⟩ := cst32
  obtain ⟨h1, h2, h3⟩ := h
  rw [tp] at h1
  rw [q0] at h2
  rw [q1] at h3
  unfold FP.Core.encode FP.Core.assemble nz32
  dsimp only
  rw [t, e, q0]
  have hs : s.toNat ≤ 1 := by cases s <;> decide
  generalize s.toNat = b at *
  split
  · next z =>
    have hE : FP.Core.fieldE FP.Core.b32 ((b * 256 + 0) * 8388608 + c) = 0 := by unfold FP.Core.fieldE; rw [t, e]; omega
    have hT : FP.Core.fieldT FP.Core.b32 ((b * 256 + 0) * 8388608 + c) = c := by unfold FP.Core.fieldT; rw [t]; omega
    refine ⟨FP.Core.fieldS FP.Core.b32 ((b * 256 + 0) * 8388608 + c), FP.Core.fieldT FP.Core.b32 ((b * 256 + 0) * 8388608 + c), FP.Core.Fmt.qmin FP.Core.b32, ?_, by rw [hT]; exact hc⟩
    unfold FP.Core.decode
    rw [if_neg (by rw [hE, e]; decide), if_pos hE]
  · next z =>
    obtain ⟨N, hN⟩ : ∃ N, N = (b * 256 + ((q - -149).toNat + 1)) * 8388608 + (c - 8388608) := ⟨_, rfl⟩
    have hE1 : FP.Core.fieldE FP.Core.b32 N ≠ 256 - 1 := by unfold FP.Core.fieldE; rw [t, e]; omega
    have hE2 : FP.Core.fieldE FP.Core.b32 N ≠ 0 := by unfold FP.Core.fieldE; rw [t, e]; omega
    rw [← hN]
    refine ⟨FP.Core.fieldS FP.Core.b32 N, FP.Core.Fmt.tails FP.Core.b32 + FP.Core.fieldT FP.Core.b32 N, FP.Core.Fmt.qmin FP.Core.b32 + ((FP.Core.fieldE FP.Core.b32 N : Int) - 1), ?_, by rw [t]; omega⟩
    unfold FP.Core.decode
    rw [if_neg (by rw [e]; exact hE1), if_neg hE2]
theorem int32 {n : Nat} (h1 : 1 ≤ n) (h2 : n < 16777216) : nz32 (FP.Core.fromInt FP.Core.b32 (n : Int)) ∧ nb32 (FP.Core.fromInt FP.Core.b32 (n : Int)) := by
  obtain ⟨t, e, q0, q1, p0, tp⟩ := cst32
  have ok := ok_ratio (f := FP.Core.b32) (decide ((n : Int) < 0)) (n : Int).natAbs 1 0 (by decide) (by decide)
  have en : (n : Int).natAbs = n := Int.natAbs_natCast n
  refine ⟨?_, enc32 ok⟩
  unfold FP.Core.fromInt FP.Core.ofInt FP.Core.round
  rw [en] at ok ⊢
  unfold FP.Core.roundRatio at ok ⊢
  dsimp only
  rw [if_neg (by omega)] at ok ⊢
  unfold FP.Core.roundAt at ok ⊢
  have lg : n.log2 < 24 := (Nat.log2_lt (by omega)).mpr (by have e9 : (2 : Nat) ^ 24 = 16777216 := (by decide); omega)
  have q : FP.Core.quantum FP.Core.b32 n 1 0 ≤ 0 := by
    unfold FP.Core.quantum FP.Core.leading
    rw [q0, p0, show Nat.log2 1 = 0 by decide]
    dsimp only
    split <;> omega
  have cz : FP.Core.nearest (FP.Core.unitsNum n 0 (FP.Core.quantum FP.Core.b32 n 1 0)) (FP.Core.unitsDen 1 0 (FP.Core.quantum FP.Core.b32 n 1 0)) ≠ 0 := by
    have ud : FP.Core.unitsDen 1 0 (FP.Core.quantum FP.Core.b32 n 1 0) = 1 := by
      unfold FP.Core.unitsDen
      rw [show (FP.Core.quantum FP.Core.b32 n 1 0 - 0).toNat = 0 by omega]
    rw [ud]
    unfold FP.Core.nearest FP.Core.unitsNum
    rw [Nat.mod_one, if_pos (by decide), Nat.div_one]
    have := Nat.mul_pos (show 0 < n by omega) (Nat.two_pow_pos (0 - FP.Core.quantum FP.Core.b32 n 1 0).toNat)
    omega
  generalize FP.Core.nearest (FP.Core.unitsNum n 0 (FP.Core.quantum FP.Core.b32 n 1 0)) (FP.Core.unitsDen 1 0 (FP.Core.quantum FP.Core.b32 n 1 0)) = c at *
  have q2 : FP.Core.quantum FP.Core.b32 n 1 0 ≤ 104 - 1 := by omega
  generalize FP.Core.quantum FP.Core.b32 n 1 0 = r at *
  unfold FP.Core.settle FP.Core.bound at ok ⊢
  by_cases z : c < 2 ^ FP.Core.b32.p
  · rw [if_pos z, if_pos (by rw [q1]; omega)] at ok ⊢
    exact encz32 ok cz
  · rw [if_neg z, if_pos (by rw [q1]; omega)] at ok ⊢
    exact encz32 ok (by rw [t]; decide)
theorem any32 {i : Int} : nb32 (FP.Core.fromInt FP.Core.b32 i) := enc32 (ok_ratio (f := FP.Core.b32) (decide (i < 0)) i.natAbs 1 0 (by decide) (by decide))
theorem div32 {a b : Nat} (ha : nb32 a) (hb : nz32 b) : nb32 (FP.Core.div FP.Core.b32 a b) := by
  unfold FP.Core.div
  obtain ⟨t, d, r, hd, hz⟩ := hb
  rw [hd]
  have n := dec32 ha
  refine enc32 ?_
  cases h : FP.Core.decode FP.Core.b32 a with
  | nan => exact absurd h n
  | inf s => exact trivial
  | fin s c q =>
    unfold FP.Core.quotient
    dsimp only
    rw [if_neg hz]
    exact ok_ratio (f := FP.Core.b32) _ _ _ _ (by decide) (by decide)
theorem cst64 : FP.Core.b64.tails = 4503599627370496 ∧ FP.Core.b64.exps = 2048 ∧ FP.Core.b64.qmin = -1074 ∧ FP.Core.b64.qmax = 971 ∧ FP.Core.b64.p = 53 ∧ 2 ^ FP.Core.b64.p = 9007199254740992 := by decide
/-- bits that are no NaN -/
def nb64 (n : Nat) : Prop := n < 18446744073709551616 ∧ n % 9223372036854775808 ≤ 9218868437227405312
theorem enc64 {d : FP.Core.Datum} (h : okD FP.Core.b64 d) : nb64 (FP.Core.encode FP.Core.b64 d) := by
  obtain ⟨t, e, q0, q1, -, tp⟩ := cst64
  cases d with
  | nan => exact h.elim
  | inf s =>
    unfold FP.Core.encode FP.Core.assemble nb64
    rw [t, e]
    cases s <;> decide
  | fin s c q =>
    obtain ⟨h1, h2, h3⟩ := h
    rw [tp] at h1
    rw [q0] at h2
    rw [q1] at h3
    unfold FP.Core.encode FP.Core.assemble nb64
    dsimp only
    rw [t, e, q0]
    have hs : s.toNat ≤ 1 := by cases s <;> decide
    generalize s.toNat = b at *
    split
    · next z => omega
    · next z => omega
theorem dec64 {n : Nat} (h : nb64 n) : FP.Core.decode FP.Core.b64 n ≠ .nan := by
  obtain ⟨t, e, -, -, -, -⟩ := cst64
  obtain ⟨h1, h2⟩ := h
  unfold FP.Core.decode FP.Core.fieldE FP.Core.fieldT
  rw [t, e]
  split
  · next z =>
    rw [if_pos (by omega)]
    intro y; cases y
  · split
    · intro y; cases y
    · intro y; cases y
/-- a number other than 0 -/
def nz64 (n : Nat) : Prop := ∃ s c q, FP.Core.decode FP.Core.b64 n = .fin s c q ∧ c ≠ 0
theorem encz64 {s : Bool} {c : Nat} {q : Int} (h : okD FP.Core.b64 (.fin s c q)) (hc : c ≠ 0) : nz64 (FP.Core.encode FP.Core.b64 (.fin s c q)) := by
  obtain ⟨t, e, q0, q1, -, tp⟩ := cst64
  obtain ⟨h1, h2, h3⟩ := h
  rw [tp] at h1
  rw [q0] at h2
  rw [q1] at h3
  unfold FP.Core.encode FP.Core.assemble nz64
  dsimp only
  rw [t, e, q0]
  have hs : s.toNat ≤ 1 := by cases s <;> decide
  generalize s.toNat = b at *
  split
  · next z =>
    have hE : FP.Core.fieldE FP.Core.b64 ((b * 2048 + 0) * 4503599627370496 + c) = 0 := by unfold FP.Core.fieldE; rw [t, e]; omega
    have hT : FP.Core.fieldT FP.Core.b64 ((b * 2048 + 0) * 4503599627370496 + c) = c := by unfold FP.Core.fieldT; rw [t]; omega
    refine ⟨FP.Core.fieldS FP.Core.b64 ((b * 2048 + 0) * 4503599627370496 + c), FP.Core.fieldT FP.Core.b64 ((b * 2048 + 0) * 4503599627370496 + c), FP.Core.Fmt.qmin FP.Core.b64, ?_, by rw [hT]; exact hc⟩
    unfold FP.Core.decode
    rw [if_neg (by rw [hE, e]; decide), if_pos hE]
  · next z =>
    obtain ⟨N, hN⟩ : ∃ N, N = (b * 2048 + ((q - -1074).toNat + 1)) * 4503599627370496 + (c - 4503599627370496) := ⟨_, rfl⟩
    have hE1 : FP.Core.fieldE FP.Core.b64 N ≠ 2048 - 1 := by unfold FP.Core.fieldE; rw [t, e]; omega
    have hE2 : FP.Core.fieldE FP.Core.b64 N ≠ 0 := by unfold FP.Core.fieldE; rw [t, e]; omega
    rw [← hN]
    refine ⟨FP.Core.fieldS FP.Core.b64 N, FP.Core.Fmt.tails FP.Core.b64 + FP.Core.fieldT FP.Core.b64 N, FP.Core.Fmt.qmin FP.Core.b64 + ((FP.Core.fieldE FP.Core.b64 N : Int) - 1), ?_, by rw [t]; omega⟩
    unfold FP.Core.decode
    rw [if_neg (by rw [e]; exact hE1), if_neg hE2]
theorem int64 {n : Nat} (h1 : 1 ≤ n) (h2 : n < 16777216) : nz64 (FP.Core.fromInt FP.Core.b64 (n : Int)) ∧ nb64 (FP.Core.fromInt FP.Core.b64 (n : Int)) := by
  obtain ⟨t, e, q0, q1, p0, tp⟩ := cst64
  have ok := ok_ratio (f := FP.Core.b64) (decide ((n : Int) < 0)) (n : Int).natAbs 1 0 (by decide) (by decide)
  have en : (n : Int).natAbs = n := Int.natAbs_natCast n
  refine ⟨?_, enc64 ok⟩
  unfold FP.Core.fromInt FP.Core.ofInt FP.Core.round
  rw [en] at ok ⊢
  unfold FP.Core.roundRatio at ok ⊢
  dsimp only
  rw [if_neg (by omega)] at ok ⊢
  unfold FP.Core.roundAt at ok ⊢
  have lg : n.log2 < 24 := (Nat.log2_lt (by omega)).mpr (by have e9 : (2 : Nat) ^ 24 = 16777216 := (by decide); omega)
  have q : FP.Core.quantum FP.Core.b64 n 1 0 ≤ 0 := by
    unfold FP.Core.quantum FP.Core.leading
    rw [q0, p0, show Nat.log2 1 = 0 by decide]
    dsimp only
    split <;> omega
  have cz : FP.Core.nearest (FP.Core.unitsNum n 0 (FP.Core.quantum FP.Core.b64 n 1 0)) (FP.Core.unitsDen 1 0 (FP.Core.quantum FP.Core.b64 n 1 0)) ≠ 0 := by
    have ud : FP.Core.unitsDen 1 0 (FP.Core.quantum FP.Core.b64 n 1 0) = 1 := by
      unfold FP.Core.unitsDen
      rw [show (FP.Core.quantum FP.Core.b64 n 1 0 - 0).toNat = 0 by omega]
    rw [ud]
    unfold FP.Core.nearest FP.Core.unitsNum
    rw [Nat.mod_one, if_pos (by decide), Nat.div_one]
    have := Nat.mul_pos (show 0 < n by omega) (Nat.two_pow_pos (0 - FP.Core.quantum FP.Core.b64 n 1 0).toNat)
    omega
  generalize FP.Core.nearest (FP.Core.unitsNum n 0 (FP.Core.quantum FP.Core.b64 n 1 0)) (FP.Core.unitsDen 1 0 (FP.Core.quantum FP.Core.b64 n 1 0)) = c at *
  have q2 : FP.Core.quantum FP.Core.b64 n 1 0 ≤ 971 - 1 := by omega
  generalize FP.Core.quantum FP.Core.b64 n 1 0 = r at *
  unfold FP.Core.settle FP.Core.bound at ok ⊢
  by_cases z : c < 2 ^ FP.Core.b64.p
  · rw [if_pos z, if_pos (by rw [q1]; omega)] at ok ⊢
    exact encz64 ok cz
  · rw [if_neg z, if_pos (by rw [q1]; omega)] at ok ⊢
    exact encz64 ok (by rw [t]; decide)
theorem any64 {i : Int} : nb64 (FP.Core.fromInt FP.Core.b64 i) := enc64 (ok_ratio (f := FP.Core.b64) (decide (i < 0)) i.natAbs 1 0 (by decide) (by decide))
theorem div64 {a b : Nat} (ha : nb64 a) (hb : nz64 b) : nb64 (FP.Core.div FP.Core.b64 a b) := by
  unfold FP.Core.div
  obtain ⟨t, d, r, hd, hz⟩ := hb
  rw [hd]
  have n := dec64 ha
  refine enc64 ?_
  cases h : FP.Core.decode FP.Core.b64 a with
  | nan => exact absurd h n
  | inf s => exact trivial
  | fin s c q =>
    unfold FP.Core.quotient
    dsimp only
    rw [if_neg hz]
    exact ok_ratio (f := FP.Core.b64) _ _ _ _ (by decide) (by decide)
theorem mul100 {a : Nat} (ha : nb32 a) : nb32 (FP.Core.mul FP.Core.b32 a 1120403456) := by
  unfold FP.Core.mul
  have h100 : FP.Core.decode FP.Core.b32 1120403456 = .fin false 13107200 (-17) := by decide
  rw [h100]
  have n := dec32 ha
  refine enc32 ?_
  cases h : FP.Core.decode FP.Core.b32 a with
  | nan => exact absurd h n
  | inf s => exact trivial
  | fin s c q => exact ok_ratio (f := FP.Core.b32) _ _ _ _ (by decide) (by decide)
theorem vf32 {n : Nat} (h : nb32 n) : vf_n32 (UInt32.ofNat n) := by
  obtain ⟨h1, h2⟩ := h
  unfold vf_n32
  rw [UInt32.le_iff_toNat_le, UInt32.toNat_and, UInt32.toNat_ofNat']
  show (n % 2 ^ 32) &&& 2147483647 ≤ 2139095040
  have e : (n % 2 ^ 32) &&& 2147483647 = (n % 2 ^ 32) % 2147483648 := Nat.and_two_pow_sub_one_eq_mod _ 31
  rw [e]
  have : (2 : Nat) ^ 32 = 4294967296 := by decide
  omega
theorem vf64 {n : Nat} (h : nb64 n) : vf_n64 (UInt64.ofNat n) := by
  obtain ⟨h1, h2⟩ := h
  unfold vf_n64
  rw [UInt64.le_iff_toNat_le, UInt64.toNat_and, UInt64.toNat_ofNat']
  show (n % 2 ^ 64) &&& 9223372036854775807 ≤ 9218868437227405312
  have e : (n % 2 ^ 64) &&& 9223372036854775807 = (n % 2 ^ 64) % 9223372036854775808 := Nat.and_two_pow_sub_one_eq_mod _ 63
  rw [e]
  have : (2 : Nat) ^ 64 = 18446744073709551616 := by decide
  omega
theorem toN32 {n : Nat} (h : nb32 n) : (UInt32.ofNat n).toNat = n := by
  rw [UInt32.toNat_ofNat']
  have : (2 : Nat) ^ 32 = 4294967296 := by decide
  have := h.1
  omega
theorem toN64 {n : Nat} (h : nb64 n) : (UInt64.ofNat n).toNat = n := by
  rw [UInt64.toNat_ofNat']
  have : (2 : Nat) ^ 64 = 18446744073709551616 := by decide
  have := h.1
  omega
theorem width_ok {st g : Int} (hs : inR st) (hg : 5 ≤ g ∧ g ≤ 99) : vf_n32 (FP.fmul (FP.i2f (Int32.ofInt st)) 1120403456) ∧ vf_n32 (wdF st g) ∧ nb32 (wdF st g).toNat := by
  have a : nb32 (FP.Core.fromInt FP.Core.b32 (Int32.ofInt st).toInt) := any32
  have m : nb32 (FP.Core.mul FP.Core.b32 (FP.i2f (Int32.ofInt st)).toNat (1120403456 : UInt32).toNat) := mul100 (by
    show nb32 (UInt32.ofNat (FP.Core.fromInt FP.Core.b32 (Int32.ofInt st).toInt)).toNat
    rw [toN32 a]; exact a)
  obtain ⟨n, hn⟩ : ∃ n : Nat, g = (n : Int) := ⟨g.toNat, by omega⟩
  have b := int32 (n := n) (by omega) (by omega)
  have eg : (FP.i2f (Int32.ofInt g)).toNat = FP.Core.fromInt FP.Core.b32 (n : Int) := by
    show (UInt32.ofNat (FP.Core.fromInt FP.Core.b32 (Int32.ofInt g).toInt)).toNat = _
    rw [i_to (show inR g from ⟨by omega, by omega⟩), hn, toN32 b.2]
  have d : nb32 (FP.Core.div FP.Core.b32 (FP.fmul (FP.i2f (Int32.ofInt st)) 1120403456).toNat (FP.i2f (Int32.ofInt g)).toNat) := div32 (by
    show nb32 (UInt32.ofNat (FP.Core.mul FP.Core.b32 (FP.i2f (Int32.ofInt st)).toNat (1120403456 : UInt32).toNat)).toNat
    rw [toN32 m]; exact m) (by rw [eg]; exact b.1)
  refine ⟨vf32 m, vf32 d, ?_⟩
  show nb32 (UInt32.ofNat (FP.Core.div FP.Core.b32 (FP.fmul (FP.i2f (Int32.ofInt st)) 1120403456).toNat (FP.i2f (Int32.ofInt g)).toNat)).toNat
  rw [toN32 d]; exact d
theorem mean_ok {sm rw9 : Int} (hr : 1 ≤ rw9 ∧ rw9 ≤ 30000) : vf_n64 (mnD sm rw9) ∧ nb64 (mnD sm rw9).toNat := by
  have a : nb64 (FP.Core.fromInt FP.Core.b64 (Int64.ofInt sm).toInt) := any64
  obtain ⟨n, hn⟩ : ∃ n : Nat, rw9 = (n : Int) := ⟨rw9.toNat, by omega⟩
  have b := int64 (n := n) (by omega) (by omega)
  have eg : (FP.i2d (Int32.ofInt rw9)).toNat = FP.Core.fromInt FP.Core.b64 (n : Int) := by
    show (UInt64.ofNat (FP.Core.fromInt FP.Core.b64 (Int32.ofInt rw9).toInt)).toNat = _
    rw [i_to (show inR rw9 from ⟨by omega, by omega⟩), hn, toN64 b.2]
  have d : nb64 (FP.Core.div FP.Core.b64 (FP.l2d (Int64.ofInt sm)).toNat (FP.i2d (Int32.ofInt rw9)).toNat) := div64 (by
    show nb64 (UInt64.ofNat (FP.Core.fromInt FP.Core.b64 (Int64.ofInt sm).toInt)).toNat
    rw [toN64 a]; exact a) (by rw [eg]; exact b.1)
  refine ⟨vf64 d, ?_⟩
  show nb64 (UInt64.ofNat (FP.Core.div FP.Core.b64 (FP.l2d (Int64.ofInt sm)).toNat (FP.i2d (Int32.ofInt rw9)).toNat)).toNat
  rw [toN64 d]; exact d
/-- a float that is no NaN as a double -/
theorem f2d_ok {a : UInt32} (h : nb32 a.toNat) : vf_n64 (FP.f2d a) ∧ nb64 (FP.f2d a).toNat := by
  have n := dec32 h
  have e : FP.f2d a = UInt64.ofNat (FP.Core.convert FP.Core.b32 FP.Core.b64 a.toNat) := by
    unfold FP.f2d FP.Core.fIsNaN FP.Core.isNaN
    rw [if_neg (by simpa using n)]
    rfl
  have k : nb64 (FP.Core.convert FP.Core.b32 FP.Core.b64 a.toNat) := by
    unfold FP.Core.convert
    refine enc64 ?_
    cases h2 : FP.Core.decode FP.Core.b32 a.toNat with
    | nan => exact absurd h2 n
    | inf s => exact trivial
    | fin s c q => exact ok_ratio (f := FP.Core.b64) _ _ _ _ (by decide) (by decide)
  rw [e]
  refine ⟨vf64 k, ?_⟩
  rw [toN64 k]; exact k
theorem cmp_self9 (x : Int) : compare x x = .eq := by
  show compareOfLessAndEq x x = .eq
  unfold compareOfLessAndEq
  rw [if_neg (Int.lt_irrefl x), if_pos rfl]
theorem dcmp_self {a : UInt64} (h : nb64 a.toNat) : FP.dcmp a a = some .eq := by
  have n := dec64 h
  show FP.Core.order (FP.Core.decode FP.Core.b64 a.toNat) (FP.Core.decode FP.Core.b64 a.toNat) = some .eq
  cases h2 : FP.Core.decode FP.Core.b64 a.toNat with
  | nan => exact absurd h2 n
  | inf s => exact congrArg some (cmp_self9 _)
  | fin s c q => exact congrArg some (cmp_self9 _)
