/-! ===== the model: rows of a part ===== -/
section MROWS
variable {M : List CT} {h : HP} {i j k m s p c x w : Int} {st : Nat → Int}
theorem m_rowsOf (hM : Cpl h) (hC : CI h) (hs : isSz h s) (hp : isPc h p) (hk : isPa h p k) (hB : StC (h 69) st) (hS : StOK st) (hkd : cF (h 26) p k 0 ≠ 0) : Ok 229 [vR 50, vI s, vI p, vI k] (LL M) h (rt (some (vI (cRw (h 22) (h 26) st s p k))) (LL M) h) := by
  have b0 := hC.1.1
  have b1 := hC.1.2.1
  have b2 := hC.1.2.2.1
  have s0 : 0 ≤ s ∧ s < 6 := ⟨hs.1, by have := hs.2; omega⟩
  have pk := (hC.1.2.2.2.2.2 p hp.1 hp.2).2 k hk.1 hk.2
  have pm := (hM.2.2.1 p hp.1 hp.2).2 k hk.1 hk.2
  have z7 := pk.2.2.2.2.2.2.1 hkd
  have z10 := pk.2.2.2.2.2.2.2.2.2
  have f5 := m_of (M := M) hM hC hp hk (w := 5) (by decide)
  have f7 := m_of (M := M) hM hC hp hk (w := 7) (by decide)
  rw [pm.2.2.1] at f5
  rw [pm.2.2.2.2] at f7
  clear pk pm
  have m0 : 0 ≤ cF (h 26) p k 6 ∧ cF (h 26) p k 6 < 8 := ⟨z7.1, by have := z7.2; omega⟩
  have fb := m_by (M := M) m0 s0 hB
  have v : 0 ≤ cVal st (cF (h 26) p k 6) s ∧ cVal st (cF (h 26) p k 6) s ≤ 3000 := hS.2.2.2.2.2.2.1 (24 + cF (h 26) p k 6 * 6 + s) (by omega) (by omega)
  have g := hS.2.1
  have g1 : h 69 1 = rd st 132 1 := by have e := hB.1.2.1; rw [rd_in (by decide) (by decide)] at e; exact e
  have rb := rnd_bd3 v.1 v.2 (show 0 ≤ rd st 132 1 by omega) g.2
  have mb := rnd_bd v.1 (by omega) (show 0 ≤ rd st 132 1 by omega) g.2
  have i1 : inR (cVal st (cF (h 26) p k 6) s * h 69 1) := by rw [g1]; exact ⟨by omega, by omega⟩
  have i2 : inR (cVal st (cF (h 26) p k 6) s * h 69 1 + 50) := by rw [g1]; exact ⟨by omega, by omega⟩
  have i3 : inR (rnd (cVal st (cF (h 26) p k 6) s) (h 69 1)) := by rw [g1]; exact ⟨by omega, by omega⟩
  refine ok_body B_X9_rowsOf rfl (fun X hX => ?_)
  unfold cRw at hX
  rw [if_neg hkd] at hX
  rw [← g1] at rb hX
  obtain ⟨r, hr⟩ : ∃ r, r = rnd (cVal st (cF (h 26) p k 6) s) (h 69 1) := ⟨_, rfl⟩
  rw [← hr] at rb hX i3
  have fin : ∀ j5 j6 : PV, X 27 [vR 50, vI s, vI p, vI k, vI r, j5, j6] [] (LL M) h 0 0 := fun j5 j6 => by
    refine hX 20 [37] 27 _ _ _ _ _ _ ?_
    refine Ok_rt f7 ?_
    show X 37 [_, _, _, _, _, _, _] _ _ _ _ _
    refine hX 30 [55] 37 _ _ _ _ _ _ ?_
    refine And.intro (fun c40 => ?_) (fun c40 => ?_)
    · have hc : 0 ≤ cF (h 26) p k 8 ∧ cF (h 26) p k 8 < rd (h 21) 4 2 := by
        rcases z10 with z | z
        · exact absurd z c40
        · exact z.2
      have mc := (hM.2.1 _ hc.1 hc.2).1
      have cb := (hC.1.2.2.2.2.1 _ hc.1 hc.2).1
      rw [rd_in hc.1 (by omega)] at mc
      refine And.intro ⟨by omega, by omega⟩ ?_
      rw [mc]
      show X 55 [_, _, _, _, _, _, _] _ _ _ _ _
      generalize hn : rd (h 22) 4 (cF (h 26) p k 8) = n at *
      have nt := near_two rb.1 cb.1
      have nb := near_bd rb.1 cb.1 (Int.le_refl 0) (by omega)
      have tb := td_bd (x := 2 * r + n) (y := 2 * n) (by omega) (by omega)
      refine hX 30 [] 55 _ _ _ _ _ _ ?_
      refine And.intro ⟨by omega, by omega⟩ ?_
      refine And.intro ⟨by omega, by omega⟩ ?_
      refine And.intro ⟨by omega, by omega⟩ ?_
      refine And.intro ⟨by omega, ⟨by omega, by omega⟩⟩ ?_
      refine And.intro (show inR ((2 * r + n).tdiv (2 * n) * n) from (by rw [nt]; exact ⟨by omega, by omega⟩)) ?_
      exact rt_mk (congrArg (fun z => some (vI z)) (show (2 * r + n).tdiv (2 * n) * n = _ by rw [nt, if_neg c40])) rfl
    · exact rt_mk (congrArg (fun z => some (vI z)) (show r = _ by rw [if_pos c40])) rfl
  refine hX 40 [27] 0 _ _ _ _ _ _ ?_
  refine Ok_rt f5 ?_
  refine Ok_rt fb ?_
  refine And.intro ⟨by decide, by decide⟩ ?_
  refine And.intro i1 ?_
  refine And.intro i2 ?_
  refine And.intro ⟨by decide, (show inR (rnd (cVal st (cF (h 26) p k 6) s) (h 69 1)) from (by rw [← hr]; exact i3))⟩ ?_
  have ff := fin vU vU
  rw [hr] at ff
  exact ff
end MROWS
