/-! ===== the model: stitches of a width ===== -/
theorem tm_twice {x T : Int} (hT : 1 ≤ T) : (x.tmod T + T).tmod T = x % T := by
  have a := Int.emod_nonneg x (show T ≠ 0 by omega)
  have b := Int.emod_lt_of_pos x (show 0 < T by omega)
  have e : x.tmod T = x % T ∨ x.tmod T = x % T - T := by
    rw [Int.tmod_eq_emod]
    split
    · left; omega
    · right; have : (T.natAbs : Int) = T := by omega
      omega
  rw [Int.tmod_eq_emod_of_nonneg (by omega)]
  rcases e with e | e
  · rw [e, Int.add_emod_right, Int.emod_emod_of_dvd _ (Int.dvd_refl T)]
  · rw [e, show x % T - T + T = x % T by omega, Int.emod_emod_of_dvd _ (Int.dvd_refl T)]
section MCOUNT
variable {M : List CT} {h : HP} {i j k m s p c x w : Int} {st : Nat → Int}
theorem m_countOf (hM : Cpl h) (hC : CI h) (hs : isSz h s) (hp : isPc h p) (hk : isPa h p k) (hB : StC (h 69) st) (hS : StOK st) (hkd : cF (h 26) p k 0 ≠ 1) : Ok 228 [vR 50, vI s, vI p, vI k] (LL M) h (rt (some (vI (cGl (h 26) st s p k))) (LL M) h) := by
  have b0 := hC.1.1
  have b1 := hC.1.2.1
  have b3 := hC.1.2.2.2.1
  have s0 : 0 ≤ s ∧ s < 6 := ⟨hs.1, by have := hs.2; omega⟩
  have p0 : 0 ≤ p ∧ p < 6 := ⟨hp.1, by have := hp.2; omega⟩
  have bp := (hC.1.2.2.2.2.2 p hp.1 hp.2).1
  have k0 : 0 ≤ k ∧ k < 10 := ⟨hk.1, by have := hk.2; omega⟩
  have pk := (hC.1.2.2.2.2.2 p hp.1 hp.2).2 k hk.1 hk.2
  have pm := (hM.2.2.1 p hp.1 hp.2).2 k hk.1 hk.2
  obtain ⟨w1, w2, w3⟩ := pk.2.2.2.2.1 hkd
  have f2 := m_of (M := M) hM hC hp hk (w := 2) (by decide)
  have f3 := m_of (M := M) hM hC hp hk (w := 3) (by decide)
  have f4 := m_of (M := M) hM hC hp hk (w := 4) (by decide)
  rw [pm.1.2.2.1] at f2
  rw [pm.1.2.2.2] at f3
  rw [pm.2.1] at f4
  clear pk pm
  have m0 : 0 ≤ cF (h 26) p k 2 ∧ cF (h 26) p k 2 < 8 := ⟨w1.1, by have := w1.2; omega⟩
  have fb := m_by (M := M) m0 s0 hB
  have v : 0 ≤ cVal st (cF (h 26) p k 2) s ∧ cVal st (cF (h 26) p k 2) s ≤ 3000 := hS.2.2.2.2.2.2.1 (24 + cF (h 26) p k 2 * 6 + s) (by omega) (by omega)
  have e := hS.2.2.2.2.2.2.2 (72 + p * 10 + k) (by omega) (by omega)
  have g := hS.1
  have g1 : h 69 0 = rd st 132 0 := by have e := hB.1.1; rw [rd_in (by decide) (by decide)] at e; exact e
  have e1 : h 69 (52 + 10 * p + k).toNat = rd st 132 (72 + p * 10 + k) := by have e := hB.2.2.1 p k p0.1 p0.2 k0.1 k0.2; rw [rd_in (by omega) (by omega)] at e; exact e
  have eN : cNr (h 26) st s p k = nearF (rnd (max (cVal st (cF (h 26) p k 2) s + rd st 132 (72 + p * 10 + k)) 0) (rd st 132 0)) (cF (h 26) p k 4) (cF (h 26) p k 5) := rfl
  refine ok_body B_X9_countOf rfl (fun X hX => ?_)
  unfold cGl at hX
  rw [eN, ← g1, ← e1] at hX
  rw [← g1] at g
  rw [← e1] at e
  clear eN g1 e1 b0 b1 b3 bp w1
  generalize hW : cVal st (cF (h 26) p k 2) s = W at *
  generalize hE : h 69 (52 + 10 * p + k).toNat = E at *
  generalize hG : h 69 0 = G at *
  generalize hT : cF (h 26) p k 4 = T at *
  generalize hL : cF (h 26) p k 5 = L at *
  have nm := cG_num (W := W) (E := E) (G := G) (M := T) (R := L) v.1 v.2 e.1 e.2 (by omega) g.2 w2.1 w2.2 w3.1 w3.2
  obtain ⟨i1, i2, i3, i4, i5, -⟩ := nm
  generalize hR : rnd (max (W + E) 0) G = R at *
  have lo0 := Int.emod_nonneg (R - L) (show T ≠ 0 by omega)
  have lo1 := Int.emod_lt_of_pos (R - L) (show 0 < T by omega)
  have tt := tm_twice (x := R - L) (T := T) w2.1
  have tb : -100 ≤ (R - L).tmod T ∧ (R - L).tmod T ≤ 100 := by
    have := tmod_rng (a := R - L) (b := T) ⟨by omega, by omega⟩ (by omega)
    rw [Int.tmod_eq_emod]
    split <;> omega
  have fin : ∀ j4 j8 : PV, X 73 [vR 50, vI s, vI p, vI k, j4, vI R, vI T, vI L, j8] [] (LL M) h 0 0 := fun j4 j8 => by
    refine hX 40 [92] 73 _ _ _ _ _ _ ?_
    refine And.intro ⟨by omega, by omega⟩ ?_
    refine And.intro (by omega) ?_
    refine And.intro ⟨by omega, by omega⟩ ?_
    refine And.intro (by omega) ?_
    rw [tt]
    refine And.intro ⟨by omega, by omega⟩ ?_
    unfold nearF at hX
    show X 92 [_, _, _, _, _, _, _, _, _] _ _ _ _ _
    have lb : R - T < R - (R - L) % T ∧ R - (R - L) % T ≤ R := by omega
    generalize R - (R - L) % T = lo at *
    refine hX 40 [98] 92 _ _ _ _ _ _ ?_
    refine And.intro (fun c95 => ?_) (fun c95 => ?_)
    · refine And.intro ⟨by omega, by omega⟩ ?_
      refine And.intro ⟨by omega, by omega⟩ ?_
      refine And.intro ⟨by omega, by omega⟩ ?_
      refine And.intro (fun c130 => ?_) (fun c130 => ?_)
      · have z : R - lo < lo + T - R := by omega
        exact rt_mk (congrArg (fun z => some (vI z)) (show lo = _ by rw [if_pos z, if_neg (by omega)])) rfl
      · refine And.intro ⟨by omega, by omega⟩ ?_
        have z : ¬ (R - lo < lo + T - R) := by omega
        exact rt_mk (congrArg (fun z => some (vI z)) (show lo + T = _ by rw [if_neg z, if_neg (by omega)])) rfl
    · refine hX 40 [98] 98 _ _ _ _ _ _ ?_
      refine And.intro (fun c101 => absurd c101 (by omega)) (fun c101 => ?_)
      refine And.intro ⟨by omega, by omega⟩ ?_
      show X 98 [_, _, _, _, _, _, _, _, _] _ _ _ _ _
      refine hX 40 [] 98 _ _ _ _ _ _ ?_
      refine And.intro (fun d101 => ?_) (fun d101 => absurd d101 (by omega))
      exact rt_mk (congrArg (fun z => some (vI z)) (show lo + T = _ by
        by_cases z : R - lo < lo + T - R
        · rw [if_pos z, if_pos (by omega)]
        · rw [if_neg z, if_neg (by omega)])) rfl
  have mid : ∀ (j5 j6 j7 j8 : PV) (q : Int), q = max (W + E) 0 → X 40 [vR 50, vI s, vI p, vI k, vI (W + E), j5, j6, j7, j8] [vI q] (LL M) h 0 0 := fun j5 j6 j7 j8 q hq => by
    subst hq
    refine hX 40 [55] 40 _ _ _ _ _ _ ?_
    refine And.intro ⟨by decide, by decide⟩ ?_
    refine And.intro (show inR (max (W + E) 0 * h 69 0) from (by rw [hG]; exact i2)) ?_
    refine And.intro (show inR (max (W + E) 0 * h 69 0 + 50) from (by rw [hG]; exact i3)) ?_
    refine And.intro ⟨by decide, (show inR (rnd (max (W + E) 0) (h 69 0)) from (by rw [hG, hR]; exact i4))⟩ ?_
    have er : (max (W + E) 0 * h 69 0 + 50).tdiv 100 = R := by rw [hG]; exact hR
    refine pI (P := fun z => X 55 [vR 50, vI s, vI p, vI k, vI (W + E), vI z, j6, j7, j8] [] (LL M) h 0 0) er ?_
    refine hX 40 [64] 55 _ _ _ _ _ _ ?_
    refine Ok_rt f3 ?_
    show X 64 [_, _, _, _, _, _, _, _, _] _ _ _ _ _
    refine hX 40 [73] 64 _ _ _ _ _ _ ?_
    refine Ok_rt f4 ?_
    show X 73 [_, _, _, _, _, _, _, _, _] _ _ _ _ _
    exact fin _ _
  refine hX 40 [29] 0 _ _ _ _ _ _ ?_
  refine Ok_rt f2 ?_
  refine Ok_rt fb ?_
  refine And.intro ⟨by omega, by omega⟩ ?_
  refine And.intro ⟨by omega, by omega⟩ ?_
  refine And.intro ⟨by omega, by omega⟩ ?_
  refine And.intro ⟨by omega, by omega⟩ ?_
  rw [hE]
  refine And.intro i1 ?_
  show X 29 [_, _, _, _, _, _, _, _, _] _ _ _ _ _
  refine hX 20 [40] 29 _ _ _ _ _ _ ?_
  refine And.intro (fun c31 => ?_) (fun c31 => ?_)
  · exact mid _ _ _ _ _ (by omega)
  · exact mid _ _ _ _ _ (by omega)
end MCOUNT
