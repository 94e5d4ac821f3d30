/-! ===== Plan: sums and extremes ===== -/
def gcF : Nat → Int → Int → Int
  | 0, a, _ => a
  | m + 1, a, b => if b = 0 then a else gcF m b (a.tmod b)
def sSR (r n : Int) : Int := (r * n + r - n + gcF 64 r n).tdiv 2
def mBA (D : KD) (k : Nat) : Int := smF (kM D k) (kN D k - 0).toNat 0 0
def mMx (D : KD) (k : Nat) : Int := mxF (kM D k) (kN D k - 0).toNat 0 0
def mMn (D : KD) (k : Nat) : Int := mnF (kM D k) (kN D k - 1).toNat 1 (kM D k 0)
/-- the stitches of a part's rows together -/
def sO (D : KD) (k : Nat) : Int :=
  if kH D k ≠ -1 then (if kN D k < 1 then 0 else (kR D k).tdiv (kN D k) * rpt D k * mBA D k)
  else if shp D k = 0 then kR D k * hv D (k + 1)
  else if hv D k < hv D (k + 1) then kR D k * hv D k + (shp D k * (kR D k + 1) - sSR (kR D k) (shp D k)) * kP D k else kR D k * hv D k - (shp D k * (kR D k + 1) - sSR (kR D k) (shp D k)) * kP D k
def sAll (D : KD) : Nat → Nat → Int → Int
  | 0, _, a => a
  | m + 1, k, a => sAll D m (k + 1) (a + sO D k)
def sCol (D : KD) (c : Int) : Nat → Nat → Int → Int
  | 0, _, a => a
  | m + 1, k, a => sCol D c m (k + 1) (if kC D k = c then a + sO D k else a)
def gMx (D : KD) : Nat → Nat → Int → Int
  | 0, _, a => a
  | m + 1, k, a => gMx D m (k + 1) (if kH D k ≠ -1 ∧ 0 < kR D k then max (max a (hv D (k + 1))) (rpt D k * mMx D k) else max a (hv D (k + 1)))
def gMn (D : KD) : Nat → Nat → Int → Int
  | 0, _, a => a
  | m + 1, k, a => gMn D m (k + 1) (if kH D k ≠ -1 ∧ 0 < kR D k then min (min a (hv D (k + 1))) (rpt D k * mMn D k) else min a (hv D (k + 1)))
theorem smF_bd {f : Int → Int} {n : Int} (hf : ∀ i, 0 ≤ i → i < n → 1 ≤ f i ∧ f i ≤ 12) : ∀ (m : Nat) (i a : Int), 0 ≤ i → i + m ≤ n → 0 ≤ a → a ≤ smF f m i a ∧ smF f m i a ≤ a + 12 * m
  | 0, i, a, _, _, _ => by unfold smF; omega
  | m + 1, i, a, h0, h1, h2 => by
    have := hf i h0 (by omega)
    have ih := smF_bd hf m (i + 1) (a + f i) (by omega) (by omega) (by omega)
    unfold smF
    omega
theorem mxF_bd {f : Int → Int} {n : Int} (hf : ∀ i, 0 ≤ i → i < n → 1 ≤ f i ∧ f i ≤ 12) : ∀ (m : Nat) (i a : Int), 0 ≤ i → i + m ≤ n → 0 ≤ a → a ≤ 12 → 0 ≤ mxF f m i a ∧ mxF f m i a ≤ 12
  | 0, i, a, _, _, _, _ => by unfold mxF; omega
  | m + 1, i, a, h0, h1, h2, h3 => by
    have := hf i h0 (by omega)
    unfold mxF
    exact mxF_bd hf m (i + 1) _ (by omega) (by omega) (by omega) (by omega)
theorem mnF_bd {f : Int → Int} {n : Int} (hf : ∀ i, 0 ≤ i → i < n → 1 ≤ f i ∧ f i ≤ 12) : ∀ (m : Nat) (i a : Int), 0 ≤ i → i + m ≤ n → 0 ≤ a → a ≤ 12 → 0 ≤ mnF f m i a ∧ mnF f m i a ≤ 12
  | 0, i, a, _, _, _, _ => by unfold mnF; omega
  | m + 1, i, a, h0, h1, h2, h3 => by
    have := hf i h0 (by omega)
    unfold mnF
    exact mnF_bd hf m (i + 1) _ (by omega) (by omega) (by omega) (by omega)
theorem gcF_bd : ∀ (m : Nat) (a b : Int), 0 ≤ a → a ≤ 100000 → 0 ≤ b → b ≤ 100000 → 0 ≤ gcF m a b ∧ gcF m a b ≤ 100000
  | 0, a, b, h0, h1, _, _ => by unfold gcF; omega
  | m + 1, a, b, h0, h1, h2, h3 => by
    unfold gcF
    split
    · omega
    · have := tm_bd (x := a) (y := b) h0 (by omega)
      exact gcF_bd m b _ h2 h3 this.1 (by omega)
theorem sSR_bd {r n : Int} (r0 : 0 ≤ r) (r1 : r ≤ 2980) (n0 : 0 ≤ n) (n1 : n ≤ 4100) : (0 ≤ r * n ∧ r * n ≤ 20000000) ∧ (0 ≤ gcF 64 r n ∧ gcF 64 r n ≤ 100000) ∧ -5000 ≤ sSR r n ∧ sSR r n ≤ 20000000 := by
  have h1 := mul_bd (a := r) (b := n) (A := 2980) (B := 4100) r0 r1 n0 n1
  have h2 := gcF_bd 64 r n r0 (by omega) n0 (by omega)
  refine ⟨⟨h1.1, by omega⟩, h2, ?_⟩
  unfold sSR
  by_cases z : 0 ≤ r * n + r - n + gcF 64 r n
  · rw [Int.tdiv_eq_ediv_of_nonneg z]; omega
  · have e := Int.neg_tdiv (-(r * n + r - n + gcF 64 r n)) 2
    rw [Int.neg_neg] at e
    rw [e, Int.tdiv_eq_ediv_of_nonneg (by omega)]; omega
section SUMS
variable {N : List CT} {h : HP} {D : KD} {n k : Nat} {p r i j : Int}
theorem comDiv_ok (hr : 0 ≤ r ∧ r ≤ 100000) (hj : 0 ≤ j ∧ j ≤ 100000) : Ok 59 [vL r, vL j] (LC N) h (rt (some (vL (gcF 64 r j))) (LC N) h) := by
  refine ok_body B_X3_commonDivisor rfl (fun X hX => ?_)
  have loop : ∀ (m : Nat) (q a b : Int) (j9 j10 : PV), 0 ≤ q → 64 - q = (m : Int) → 0 ≤ a → 0 ≤ b → gcF m a b = gcF 64 r j → X 9 [vL r, vU, vL j, vU, vL a, vU, vL b, vU, vI q, j9, j10] [] (LC N) h 0 0 := by
    intro m
    induction m with
    | zero =>
      intro q a b j9 j10 hq hm ha hb he
      refine hX 8 [] 9 _ _ _ _ _ _ ?_
      refine And.intro (fun c13 => ?_) (fun c13 => absurd c13 (by omega))
      exact rt_mk (congrArg (fun z => some (vL z)) (by rw [← he]; rfl)) rfl
    | succ m ih =>
      intro q a b j9 j10 hq hm ha hb he
      refine hX 20 [9] 9 _ _ _ _ _ _ ?_
      refine And.intro (fun c13 => absurd c13 (by omega)) (fun c13 => ?_)
      refine And.intro (fun c20 => ?_) (fun c20 => ?_)
      · have c20 : b = 0 := c20
        exact rt_mk (congrArg (fun z => some (vL z)) (by rw [← he, gcF, if_pos c20])) rfl
      · have c20 : b ≠ 0 := c20
        refine And.intro c20 ?_
        refine And.intro ⟨by omega, by omega⟩ ?_
        have tb := tm_bd (x := a) (y := b) ha (by omega)
        exact ih (q + 1) b (a.tmod b) _ _ (by omega) (by omega) hb tb.1 (by rw [← he, gcF, if_neg c20])
  refine hX 8 [9] 0 _ _ _ _ _ _ ?_
  exact loop 64 0 r j _ _ (by omega) (by omega) hr.1 hj.1 rfl

theorem sumSR_ok (hr : 0 ≤ r ∧ r ≤ 2980) (hj : 0 ≤ j ∧ j ≤ 4100) : Ok 58 [vL r, vL j] (LC N) h (rt (some (vL (sSR r j))) (LC N) h) := by
  have sb := sSR_bd hr.1 hr.2 hj.1 hj.2
  refine ok_body B_X3_sumOfShapingRows rfl (fun X hX => ?_)
  refine hX 19 [] 0 _ _ _ _ _ _ ?_
  refine And.intro ⟨by omega, by omega⟩ ?_
  refine And.intro ⟨by omega, by omega⟩ ?_
  refine And.intro ⟨by omega, by omega⟩ ?_
  refine Ok_rt (comDiv_ok ⟨by omega, by omega⟩ ⟨by omega, by omega⟩) ?_
  refine And.intro ⟨by omega, by omega⟩ ?_
  refine And.intro ⟨by decide, (show inRL (sSR r j) from ⟨by omega, by omega⟩)⟩ ?_
  exact rt_mk rfl rfl

theorem dSum (hQ : QI h 31 D n p) (hk : k < md D n) : Ok 57 [vR 31, vI (k : Int)] (LC N) h (rt (some (vL (sO D k))) (LC N) h) := by
  have hb9 : isPl 31 := Or.inl rfl
  have hm := (md_spec D n).1
  have hn := hQ.2.2.2.2
  have hkn9 : k < n := by omega
  have hR := (hQ.2.2.1 k hkn9).2.2.2.1
  have hb1 := hv_bd hQ.2.2.1 k (by omega)
  have hb2 := hv_bd hQ.2.2.1 (k + 1) (by omega)
  have sb := shp_bd hQ.2.2.1 (show k < n by omega)
  have rb := rpt_bd hQ.2.2.1 (show k < n by omega)
  have hc2 := (hQ.2.2.1 k hkn9).2.2.2.2.2.2.1
  have qb := sSR_bd hR.1 hR.2 sb.1 sb.2
  have hPb : 0 ≤ kP D k ∧ kP D k ≤ 4 := by
    by_cases w : kK D k = 2
    · have := (hQ.2.2.1 k hkn9).2.2.2.2.2.2.2.1 w; omega
    · have := (hQ.2.2.1 k hkn9).2.2.2.2.2.2.2.2 w; omega
  have cn : kH D k ≠ -1 → Ok 23 [vR 19, vI (kH D k)] (LC N) h (rt (some (vI (kN D k))) (LC N) h) := fun c => by
    have z := chartRowTotal_ok (N := N) (h := h) (i := kH D k) (p := 19) (Or.inr rfl)
    rw [← ((hQ.2.1 k (by omega)).2.2.2.2 c).2.1]; exact z
  have fe : kH D k ≠ -1 → (fun q => rdA h (19 + 5) 32 (kH D k * 8 + q)) = kM D k := fun c => funext fun q => ((hQ.2.1 k (by omega)).2.2.2.2 c).2.2 q
  have ma : kH D k ≠ -1 → Ok 28 [vR 19, vI (kH D k)] (LC N) h (rt (some (vI (mBA D k))) (LC N) h) := fun c => by
    rcases hc2 with z | z
    · exact absurd z c
    · have e2 := ((hQ.2.1 k (by omega)).2.2.2.2 c).2.1
      have y := madeByAll_ok (N := N) (h := h) (i := kH D k) (n := kN D k) (p := 19) (Or.inr rfl) (by omega) e2 (by omega) (fun q a b => by
        have e3 : rdA h (19 + 5) 32 (kH D k * 8 + q) = kM D k q := congrFun (fe c) q
        have := z.2.2.2.2.2.1 q a b
        rw [e3]; omega)
      rw [fe c] at y
      exact y
  have mab : kH D k ≠ -1 → 0 ≤ mBA D k ∧ mBA D k ≤ 96 := fun c => by
    rcases hc2 with z | z
    · exact absurd z c
    · have y := smF_bd (f := kM D k) (n := kN D k) (fun q a b => z.2.2.2.2.2.1 q a b) (kN D k - 0).toNat 0 0 (by omega) (by omega) (by omega)
      unfold mBA
      omega
  have w1 : 1 ≤ kN D k → inRL ((kR D k).tdiv (kN D k)) := fun c => by
    have := td_bd (x := kR D k) (y := kN D k) hR.1 (by omega)
    exact ⟨by omega, by omega⟩
  have v2 : 1 ≤ kN D k → 0 ≤ (kR D k).tdiv (kN D k) * rpt D k ∧ (kR D k).tdiv (kN D k) * rpt D k ≤ 12218000 := fun c => by
    have := td_bd (x := kR D k) (y := kN D k) hR.1 (by omega)
    exact mul_bd (a := (kR D k).tdiv (kN D k)) (b := rpt D k) (A := 2980) (B := 4100) this.1 (by omega) rb.1 rb.2
  have w2 : kH D k ≠ -1 → 1 ≤ kN D k → inRL ((kR D k).tdiv (kN D k) * rpt D k) := fun _ c => by have := v2 c; exact ⟨by omega, by omega⟩
  have w3 : kH D k ≠ -1 → 1 ≤ kN D k → inRL ((kR D k).tdiv (kN D k) * rpt D k * mBA D k) := fun d c => by
    have a := v2 c
    have b := mab d
    have := mul_bd (a := (kR D k).tdiv (kN D k) * rpt D k) (b := mBA D k) (A := 12218000) (B := 96) a.1 a.2 b.1 b.2
    exact ⟨by omega, by omega⟩
  have v4 := mul_bd (a := kR D k) (b := hv D (k + 1)) (A := 2980) (B := 4100) hR.1 hR.2 hb2.1 hb2.2.1
  have v9 := mul_bd (a := kR D k) (b := hv D k) (A := 2980) (B := 4100) hR.1 hR.2 hb1.1 hb1.2.1
  have v6 := mul_bd (a := shp D k) (b := kR D k + 1) (A := 4100) (B := 2981) sb.1 sb.2 (by omega) (by omega)
  have v8 : -200000000 ≤ (shp D k * (kR D k + 1) - sSR (kR D k) (shp D k)) * kP D k ∧ (shp D k * (kR D k + 1) - sSR (kR D k) (shp D k)) * kP D k ≤ 200000000 := by
    have x := mul_bd (a := shp D k * (kR D k + 1) - sSR (kR D k) (shp D k) + 20000000) (b := kP D k) (A := 40000000) (B := 4) (by omega) (by omega) hPb.1 hPb.2
    rw [Int.add_mul] at x
    omega
  have w4 : inRL (kR D k * hv D (k + 1)) := ⟨by omega, by omega⟩
  have w5 : inRL (kR D k + 1) := ⟨by omega, by omega⟩
  have w6 : inRL (shp D k * (kR D k + 1)) := ⟨by omega, by omega⟩
  have w7 : inRL (shp D k * (kR D k + 1) - sSR (kR D k) (shp D k)) := ⟨by omega, by omega⟩
  have w8 : inRL ((shp D k * (kR D k + 1) - sSR (kR D k) (shp D k)) * kP D k) := ⟨by omega, by omega⟩
  have w9 : inRL (kR D k * hv D k) := ⟨by omega, by omega⟩
  have w10 : inRL (kR D k * hv D k + (shp D k * (kR D k + 1) - sSR (kR D k) (shp D k)) * kP D k) := ⟨by omega, by omega⟩
  have w11 : inRL (kR D k * hv D k - (shp D k * (kR D k + 1) - sSR (kR D k) (shp D k)) * kP D k) := ⟨by omega, by omega⟩
  refine ok_body B_X3_sumOf rfl (fun X hX => ?_)
  refine hX 102 [7, 16, 33, 74, 105, 118] 0 _ _ _ _ _ _ ?_
  refine Ok_rt (dRows hb9 hQ hk) ?_
  show X 7 [_, _, _, _, _, _, _, _, _, _] _ _ _ _ _
  refine hX 102 [7, 16, 33, 74, 105, 118] 7 _ _ _ _ _ _ ?_
  refine Ok_rt (dfact8 hb9 hQ hk) ?_
  show X 16 [_, _, _, _, _, _, _, _, _, _] _ _ _ _ _
  refine hX 102 [7, 16, 33, 74, 105, 118] 16 _ _ _ _ _ _ ?_
  refine And.intro (fun c19 => ?_) (fun c19 => ?_)
  · refine Ok_rt (dShp hb9 hQ hk) ?_
    show X 74 [_, _, _, _, _, _, _, _, _, _] _ _ _ _ _
    refine hX 102 [7, 16, 33, 74, 105, 118] 74 _ _ _ _ _ _ ?_
    refine And.intro (fun c76 => ?_) (fun c76 => ?_)
    · refine And.intro w5 ?_
      refine And.intro w6 ?_
      refine Ok_rt (sumSR_ok ⟨by omega, by omega⟩ sb) ?_
      refine And.intro w7 ?_
      show X 105 [_, _, _, _, _, _, _, _, _, _] _ _ _ _ _
      refine hX 102 [7, 16, 33, 74, 105, 118] 105 _ _ _ _ _ _ ?_
      refine Ok_rt (dfact7 hb9 hQ hk) ?_
      refine And.intro w8 ?_
      show X 118 [_, _, _, _, _, _, _, _, _, _] _ _ _ _ _
      refine hX 102 [7, 16, 33, 74, 105, 118] 118 _ _ _ _ _ _ ?_
      refine Ok_rt (dAfter hb9 hQ hk) ?_
      refine Ok_rt (dAhead hb9 hQ hk) ?_
      refine And.intro (fun c128 => ?_) (fun c128 => ?_)
      · refine Ok_rt (dAhead hb9 hQ hk) ?_
        refine And.intro w9 ?_
        refine And.intro w11 ?_
        exact rt_mk (congrArg (fun q => some (vL q)) (by unfold sO; rw [if_neg (fun z => z c19), if_neg c76, if_neg (Int.not_lt.mpr c128)] <;> rfl)) rfl
      · refine Ok_rt (dAhead hb9 hQ hk) ?_
        refine And.intro w9 ?_
        refine And.intro w10 ?_
        exact rt_mk (congrArg (fun q => some (vL q)) (by unfold sO; rw [if_neg (fun z => z c19), if_neg c76, if_pos c128] <;> rfl)) rfl
    · refine Ok_rt (dAfter hb9 hQ hk) ?_
      refine And.intro w4 ?_
      exact rt_mk (congrArg (fun q => some (vL q)) (by unfold sO; rw [if_neg (fun z => z c19), if_pos c76])) rfl
  · refine Ok_rt (cn c19) ?_
    show X 33 [_, _, _, _, _, _, _, _, _, _] _ _ _ _ _
    refine hX 102 [7, 16, 33, 74, 105, 118] 33 _ _ _ _ _ _ ?_
    refine And.intro (fun c36 => ?_) (fun c36 => ?_)
    · refine And.intro ⟨nz c36, w1 c36⟩ ?_
      refine Ok_rt (dRpt hb9 hQ hk c19) ?_
      refine And.intro (w2 c19 c36) ?_
      refine Ok_rt (ma c19) ?_
      refine And.intro (w3 c19 c36) ?_
      exact rt_mk (congrArg (fun q => some (vL q)) (by unfold sO; rw [if_pos c19, if_neg (Int.not_lt.mpr c36)] <;> rfl)) rfl
    · exact rt_mk (congrArg (fun q => some (vL q)) (by unfold sO; rw [if_pos c19, if_pos c36] <;> rfl)) rfl

theorem sO_bd (hK : KOK D n) (hk : k < n) : -300000000 ≤ sO D k ∧ sO D k ≤ 2000000000 := by
  have hkn9 : k < n := by omega
  have hR := (hK k hkn9).2.2.2.1
  have hb1 := hv_bd hK k (by omega)
  have hb2 := hv_bd hK (k + 1) (by omega)
  have sb := shp_bd hK (show k < n by omega)
  have rb := rpt_bd hK (show k < n by omega)
  have hc2 := (hK k hkn9).2.2.2.2.2.2.1
  have qb := sSR_bd hR.1 hR.2 sb.1 sb.2
  have hPb : 0 ≤ kP D k ∧ kP D k ≤ 4 := by
    by_cases w : kK D k = 2
    · have := (hK k hkn9).2.2.2.2.2.2.2.1 w; omega
    · have := (hK k hkn9).2.2.2.2.2.2.2.2 w; omega
  have mab : kH D k ≠ -1 → 0 ≤ mBA D k ∧ mBA D k ≤ 96 := fun c => by
    rcases hc2 with z | z
    · exact absurd z c
    · have y := smF_bd (f := kM D k) (n := kN D k) (fun q a b => z.2.2.2.2.2.1 q a b) (kN D k - 0).toNat 0 0 (by omega) (by omega) (by omega)
      unfold mBA
      omega
  have v4 := mul_bd (a := kR D k) (b := hv D (k + 1)) (A := 2980) (B := 4100) hR.1 hR.2 hb2.1 hb2.2.1
  have v9 := mul_bd (a := kR D k) (b := hv D k) (A := 2980) (B := 4100) hR.1 hR.2 hb1.1 hb1.2.1
  have v6 := mul_bd (a := shp D k) (b := kR D k + 1) (A := 4100) (B := 2981) sb.1 sb.2 (by omega) (by omega)
  have v8 : -200000000 ≤ (shp D k * (kR D k + 1) - sSR (kR D k) (shp D k)) * kP D k ∧ (shp D k * (kR D k + 1) - sSR (kR D k) (shp D k)) * kP D k ≤ 200000000 := by
    have x := mul_bd (a := shp D k * (kR D k + 1) - sSR (kR D k) (shp D k) + 20000000) (b := kP D k) (A := 40000000) (B := 4) (by omega) (by omega) hPb.1 hPb.2
    rw [Int.add_mul] at x
    omega
  unfold sO
  split
  · next c =>
    split
    · omega
    · have t := td_bd (x := kR D k) (y := kN D k) hR.1 (by omega)
      have a := mul_bd (a := (kR D k).tdiv (kN D k)) (b := rpt D k) (A := 2980) (B := 4100) t.1 (by omega) rb.1 rb.2
      have b := mab c
      have := mul_bd (a := (kR D k).tdiv (kN D k) * rpt D k) (b := mBA D k) (A := 12218000) (B := 96) a.1 (by omega) b.1 b.2
      omega
  · split
    · omega
    · split <;> omega

theorem stSum_ok (hQ : QI h 31 D n p) : Ok 55 [vR 31] (LC N) h (rt (some (vL (sAll D (md D n) 0 0))) (LC N) h) := by
  have hb9 : isPl 31 := Or.inl rfl
  have hm := (md_spec D n).1
  have hn := hQ.2.2.2.2
  have f6 := hQ.1.2.1
  refine ok_body B_X3_stitchSum rfl (fun X hX => ?_)
  have loop : ∀ (m j : Nat) (a : Int), j + m = md D n → -300000000 * (j : Int) ≤ a → a ≤ 2000000000 * (j : Int) → sAll D m j a = sAll D (md D n) 0 0 → X 4 [vR 31, vL a, vU, vI (j : Int)] [] (LC N) h 0 0 := by
    intro m
    induction m with
    | zero =>
      intro j a hj h1 h2 he
      refine hX 8 [] 4 _ _ _ _ _ _ ?_
      refine And.intro (fun c9 => ?_) (fun c9 => absurd c9 (by omega))
      exact rt_mk (congrArg (fun z => some (vL z)) (by rw [← he]; rfl)) rfl
    | succ m ih =>
      intro j a hj h1 h2 he
      have so := sO_bd hQ.2.2.1 (show j < n by omega)
      refine hX 30 [4] 4 _ _ _ _ _ _ ?_
      refine And.intro (fun c9 => absurd c9 (by omega)) (fun c9 => ?_)
      refine Ok_rt (dSum hQ (k := j) (by omega)) ?_
      refine And.intro ⟨by omega, by omega⟩ ?_
      refine And.intro ⟨by omega, by omega⟩ ?_
      exact ih (j + 1) (a + sO D j) (by omega) (by omega) (by omega) he
  refine hX 8 [4] 0 _ _ _ _ _ _ ?_
  exact loop (md D n) 0 0 (by omega) (by omega) (by omega) rfl

theorem stSumIn_ok (hQ : QI h 31 D n p) : Ok 56 [vR 31, vI i] (LC N) h (rt (some (vL (sCol D i (md D n) 0 0))) (LC N) h) := by
  have hb9 : isPl 31 := Or.inl rfl
  have hm := (md_spec D n).1
  have hn := hQ.2.2.2.2
  have f6 := hQ.1.2.1
  refine ok_body B_X3_stitchSumIn rfl (fun X hX => ?_)
  have loop : ∀ (m j : Nat) (a : Int), j + m = md D n → -300000000 * (j : Int) ≤ a → a ≤ 2000000000 * (j : Int) → sCol D i m j a = sCol D i (md D n) 0 0 → X 5 [vR 31, vI i, vL a, vU, vI (j : Int)] [] (LC N) h 0 0 := by
    intro m
    induction m with
    | zero =>
      intro j a hj h1 h2 he
      refine hX 8 [] 5 _ _ _ _ _ _ ?_
      refine And.intro (fun c9 => ?_) (fun c9 => absurd c9 (by omega))
      exact rt_mk (congrArg (fun z => some (vL z)) (by rw [← he]; rfl)) rfl
    | succ m ih =>
      intro j a hj h1 h2 he
      have so := sO_bd hQ.2.2.1 (show j < n by omega)
      refine hX 30 [5] 5 _ _ _ _ _ _ ?_
      refine And.intro (fun c9 => absurd c9 (by omega)) (fun c9 => ?_)
      refine Ok_rt (dfact1 hb9 hQ (k := j) (by omega)) ?_
      refine And.intro (fun c22 => ?_) (fun c22 => ?_)
      · refine And.intro ⟨by omega, by omega⟩ ?_
        exact ih (j + 1) a (by omega) (by omega) (by omega) (by rw [← he, sCol, if_neg c22])
      · refine Ok_rt (dSum hQ (k := j) (by omega)) ?_
        refine And.intro ⟨by omega, by omega⟩ ?_
        refine And.intro ⟨by omega, by omega⟩ ?_
        exact ih (j + 1) (a + sO D j) (by omega) (by omega) (by omega) (by rw [← he, sCol, if_pos c22])
  refine hX 8 [5] 0 _ _ _ _ _ _ ?_
  exact loop (md D n) 0 0 (by omega) (by omega) (by omega) rfl

theorem greatest_ok (hQ : QI h 31 D n p) : Ok 53 [vR 31] (LC N) h (rt (some (vI (gMx D (md D n) 0 0))) (LC N) h) := by
  have hb9 : isPl 31 := Or.inl rfl
  have hm := (md_spec D n).1
  have hn := hQ.2.2.2.2
  have f6 := hQ.1.2.1
  refine ok_body B_X3_greatestStitches rfl (fun X hX => ?_)
  have mo : ∀ j : Nat, j < md D n → kH D j ≠ -1 → Ok 26 [vR 19, vI (kH D j)] (LC N) h (rt (some (vI (mMx D j))) (LC N) h) := fun j hj c => by
    rcases (hQ.2.2.1 j (by omega)).2.2.2.2.2.2.1 with z | z
    · exact absurd z c
    · have e2 := ((hQ.2.1 j (by omega)).2.2.2.2 c).2.1
      have y := mostMade_ok (N := N) (h := h) (i := kH D j) (n := kN D j) (p := 19) (Or.inr rfl) (by omega) e2 (by omega)
      have e3 : rdA h (19 + 5) 32 (kH D j * 8 + 0) = kM D j 0 := ((hQ.2.1 j (by omega)).2.2.2.2 c).2.2 0
      rw [((funext fun q => ((hQ.2.1 j (by omega)).2.2.2.2 c).2.2 q : (fun q => rdA h (19 + 5) 32 (kH D j * 8 + q)) = kM D j))] at y
      exact y
  have mob : ∀ j : Nat, j < md D n → kH D j ≠ -1 → inR (rpt D j * mMx D j) := fun j hj c => by
    rcases (hQ.2.2.1 j (by omega)).2.2.2.2.2.2.1 with z | z
    · exact absurd z c
    · have rb := rpt_bd hQ.2.2.1 (show j < n by omega)
      have y : 0 ≤ mMx D j ∧ mMx D j ≤ 12 := mxF_bd (f := kM D j) (n := kN D j) (fun q a b => z.2.2.2.2.2.1 q a b) (kN D j - 0).toNat 0 0 (by omega) (by omega) (by omega) (by omega)
      have x := mul_bd (a := rpt D j) (b := mMx D j) (A := 4100) (B := 12) rb.1 rb.2 y.1 y.2
      exact ⟨by omega, by omega⟩
  have loop : ∀ (m j : Nat) (a : Int), j + m = md D n → gMx D m j a = gMx D (md D n) 0 0 → X 4 [vR 31, vI a, vI (j : Int)] [] (LC N) h 0 0 := by
    intro m
    induction m with
    | zero =>
      intro j a hj he
      refine hX 8 [] 4 _ _ _ _ _ _ ?_
      refine And.intro (fun c9 => ?_) (fun c9 => absurd c9 (by omega))
      exact rt_mk (congrArg (fun z => some (vI z)) (by rw [← he]; rfl)) rfl
    | succ m ih =>
      intro j a hj he
      have hjm : j < md D n := by omega
      have hj1 : inR ((j : Int) + 1) := ⟨by omega, by omega⟩
      refine hX 50 [4] 4 _ _ _ _ _ _ ?_
      refine And.intro (fun c9 => absurd c9 (by omega)) (fun c9 => ?_)
      refine Ok_rt (dAfter hb9 hQ hjm) ?_
      refine Ok_rt max_ok ?_
      refine Ok_rt (dfact8 hb9 hQ hjm) ?_
      refine And.intro (fun c30 => ?_) (fun c30 => ?_)
      · refine And.intro hj1 ?_
        exact ih (j + 1) _ (by omega) (by rw [← he, gMx, if_neg (fun z => z.1 c30)])
      · refine Ok_rt (dRows hb9 hQ hjm) ?_
        refine And.intro (fun c38 => ?_) (fun c38 => ?_)
        · refine And.intro hj1 ?_
          exact ih (j + 1) _ (by omega) (by rw [← he, gMx, if_neg (fun z => absurd z.2 (Int.not_lt.mpr c38))])
        · refine Ok_rt (dRpt hb9 hQ hjm c30) ?_
          refine Ok_rt (dfact8 hb9 hQ hjm) ?_
          refine Ok_rt (mo j hjm c30) ?_
          refine And.intro (mob j hjm c30) ?_
          refine Ok_rt max_ok ?_
          refine And.intro hj1 ?_
          exact ih (j + 1) _ (by omega) (by rw [← he, gMx, if_pos ⟨c30, c38⟩])
  refine hX 8 [4] 0 _ _ _ _ _ _ ?_
  exact loop (md D n) 0 0 (by omega) rfl

theorem least_ok (hQ : QI h 31 D n p) (h0 : 0 < md D n) : Ok 54 [vR 31] (LC N) h (rt (some (vI (gMn D (md D n - 1) 1 (hv D (0 + 1))))) (LC N) h) := by
  have hb9 : isPl 31 := Or.inl rfl
  have hm := (md_spec D n).1
  have hn := hQ.2.2.2.2
  have f6 := hQ.1.2.1
  refine ok_body B_X3_leastStitches rfl (fun X hX => ?_)
  have mo : ∀ j : Nat, j < md D n → kH D j ≠ -1 → Ok 27 [vR 19, vI (kH D j)] (LC N) h (rt (some (vI (mMn D j))) (LC N) h) := fun j hj c => by
    rcases (hQ.2.2.1 j (by omega)).2.2.2.2.2.2.1 with z | z
    · exact absurd z c
    · have e2 := ((hQ.2.1 j (by omega)).2.2.2.2 c).2.1
      have y := leastMade_ok (N := N) (h := h) (i := kH D j) (n := kN D j) (p := 19) (Or.inr rfl) (by omega) e2 (by omega)
      have e3 : rdA h (19 + 5) 32 (kH D j * 8 + 0) = kM D j 0 := ((hQ.2.1 j (by omega)).2.2.2.2 c).2.2 0
      rw [((funext fun q => ((hQ.2.1 j (by omega)).2.2.2.2 c).2.2 q : (fun q => rdA h (19 + 5) 32 (kH D j * 8 + q)) = kM D j)), e3] at y
      exact y
  have mob : ∀ j : Nat, j < md D n → kH D j ≠ -1 → inR (rpt D j * mMn D j) := fun j hj c => by
    rcases (hQ.2.2.1 j (by omega)).2.2.2.2.2.2.1 with z | z
    · exact absurd z c
    · have rb := rpt_bd hQ.2.2.1 (show j < n by omega)
      have y : 0 ≤ mMn D j ∧ mMn D j ≤ 12 := mnF_bd (f := kM D j) (n := kN D j) (fun q a b => z.2.2.2.2.2.1 q a b) (kN D j - 1).toNat 1 (kM D j 0) (by omega) (by omega) (by have := z.2.2.2.2.2.1 0 (by omega) (by omega); omega) (by have := z.2.2.2.2.2.1 0 (by omega) (by omega); omega)
      have x := mul_bd (a := rpt D j) (b := mMn D j) (A := 4100) (B := 12) rb.1 rb.2 y.1 y.2
      exact ⟨by omega, by omega⟩
  have loop : ∀ (m j : Nat) (a : Int), j + m = md D n → gMn D m j a = gMn D (md D n - 1) 1 (hv D (0 + 1)) → X 8 [vR 31, vI a, vI (j : Int)] [] (LC N) h 0 0 := by
    intro m
    induction m with
    | zero =>
      intro j a hj he
      refine hX 8 [] 8 _ _ _ _ _ _ ?_
      refine And.intro (fun c9 => ?_) (fun c9 => absurd c9 (by omega))
      exact rt_mk (congrArg (fun z => some (vI z)) (by rw [← he]; rfl)) rfl
    | succ m ih =>
      intro j a hj he
      have hjm : j < md D n := by omega
      have hj1 : inR ((j : Int) + 1) := ⟨by omega, by omega⟩
      refine hX 50 [8] 8 _ _ _ _ _ _ ?_
      refine And.intro (fun c9 => absurd c9 (by omega)) (fun c9 => ?_)
      refine Ok_rt (dAfter hb9 hQ hjm) ?_
      refine Ok_rt min_ok ?_
      refine Ok_rt (dfact8 hb9 hQ hjm) ?_
      refine And.intro (fun c30 => ?_) (fun c30 => ?_)
      · refine And.intro hj1 ?_
        exact ih (j + 1) _ (by omega) (by rw [← he, gMn, if_neg (fun z => z.1 c30)])
      · refine Ok_rt (dRows hb9 hQ hjm) ?_
        refine And.intro (fun c38 => ?_) (fun c38 => ?_)
        · refine And.intro hj1 ?_
          exact ih (j + 1) _ (by omega) (by rw [← he, gMn, if_neg (fun z => absurd z.2 (Int.not_lt.mpr c38))])
        · refine Ok_rt (dRpt hb9 hQ hjm c30) ?_
          refine Ok_rt (dfact8 hb9 hQ hjm) ?_
          refine Ok_rt (mo j hjm c30) ?_
          refine And.intro (mob j hjm c30) ?_
          refine Ok_rt min_ok ?_
          refine And.intro hj1 ?_
          exact ih (j + 1) _ (by omega) (by rw [← he, gMn, if_pos ⟨c30, c38⟩])
  refine hX 12 [8] 0 _ _ _ _ _ _ ?_
  refine Ok_rt (dAfter hb9 hQ (k := 0) h0) ?_
  exact loop (md D n - 1) 1 (hv D (0 + 1)) (by omega) rfl

end SUMS
