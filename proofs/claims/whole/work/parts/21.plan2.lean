/-! ===== Plan: rows, stitches, reasons ===== -/
section PLAN
variable {N : List CT} {h : HP} {b o a : Nat} {i j k s p x y z w : Int} {tot pc : Nat → Int}
theorem countRows_ok (hb : isPS b o a) (hP : PatOK tot (h 22) (h 23) (h 24) pc (h 26)) (hS : StOK (h a)) (hs : 0 ≤ s ∧ s < 6) (hp : 0 ≤ p ∧ p < rd tot 4 3) (hk : 0 ≤ k ∧ k < rd pc 6 p) (h5 : h b 5 = p) : Ok 37 [vR b, vR o, vI s, vI k] (LC N) h (rt (some (vI (cRw (h 22) (h 26) (h a) s p k))) (LC N) h) := by
  rcases hb with ⟨rfl, rfl, rfl⟩ | ⟨rfl, rfl, rfl⟩
  · subst h5
    obtain ⟨-, p2, p3, p4, p5, p6⟩ := id hP
    obtain ⟨q1, q2, -, -, -, -, q7, q8⟩ := id hS
    have pp := p6 _ hp.1 hp.2
    obtain ⟨z1, z2, z3, z4, z5, z6, z7, z8, z9, z10⟩ := pp.2 k hk.1 hk.2
    have hk' : -1 ≤ k ∧ k ≤ 1000 := by omega
    have hp' : 0 ≤ h 31 5 ∧ h 31 5 ≤ 10 := by omega
    refine ok_body B_X3_countRows rfl (fun X hX => ?_)
    refine hX 40 [] 0 _ _ _ _ _ _ ?_
    refine Ok_rt (pfact_ok (by first | exact Or.inl rfl | exact Or.inr rfl) rfl hp' hk' (by decide)) ?_
    refine And.intro (fun c6 => ?_) (fun c6 => ?_)
    · have w := z7 c6
      have v := q7 (24 + cF (h 26) (h 31 5) k 6 * 6 + s) (by omega) (by omega)
      have r := rnd_bd3 v.1 v.2 (show 0 ≤ rd (h 28) 132 1 by omega) (by omega)
      have m := rnd_bd v.1 (by omega) (show 0 ≤ rd (h 28) 132 1 by omega) (by omega)
      refine Ok_rt (pfact_ok (by first | exact Or.inl rfl | exact Or.inr rfl) rfl hp' hk' (by decide)) ?_
      refine Ok_rt (measured_ok (Or.inr (Or.inl rfl)) (by omega) (by omega)) ?_
      refine Ok_rt (cell_ok (Or.inr (Or.inl rfl))) ?_
      refine And.intro (show inR (rd (h 28) 132 (24 + cF (h 26) (h 31 5) k 6 * 6 + s) * rd (h 28) 132 1) from ⟨by omega, by omega⟩) ?_
      refine And.intro (show inR (rd (h 28) 132 (24 + cF (h 26) (h 31 5) k 6 * 6 + s) * rd (h 28) 132 1 + 50) from ⟨by omega, by omega⟩) ?_
      refine And.intro ⟨by decide, (show inR (rnd (rd (h 28) 132 (24 + cF (h 26) (h 31 5) k 6 * 6 + s)) (rd (h 28) 132 1)) from ⟨by omega, by omega⟩)⟩ ?_
      refine Ok_rt (pfact_ok (by first | exact Or.inl rfl | exact Or.inr rfl) rfl hp' hk' (by decide)) ?_
      refine And.intro (fun c53 => ?_) (fun c53 => ?_)
      · have c1 := (p5 (cF (h 26) (h 31 5) k 8) (by omega) (by omega)).1
        refine Ok_rt (chartRowTotal_ok (Or.inr rfl)) ?_
        refine Ok_rt (nearest_ok ⟨r.1, by exact Int.le_trans r.2 (by decide)⟩ ⟨c1.1, by exact Int.le_trans c1.2 (by decide)⟩ (by omega)) ?_
        exact rt_mk (by unfold cRw; rw [if_neg c6, if_neg c53]; rfl) rfl
      · exact rt_mk (by unfold cRw; rw [if_neg c6, if_pos c53]; rfl) rfl
    · exact rt_mk (by unfold cRw; rw [if_pos c6]) rfl
  · subst h5
    obtain ⟨-, p2, p3, p4, p5, p6⟩ := id hP
    obtain ⟨q1, q2, -, -, -, -, q7, q8⟩ := id hS
    have pp := p6 _ hp.1 hp.2
    obtain ⟨z1, z2, z3, z4, z5, z6, z7, z8, z9, z10⟩ := pp.2 k hk.1 hk.2
    have hk' : -1 ≤ k ∧ k ≤ 1000 := by omega
    have hp' : 0 ≤ h 36 5 ∧ h 36 5 ≤ 10 := by omega
    refine ok_body B_X3_countRows rfl (fun X hX => ?_)
    refine hX 40 [] 0 _ _ _ _ _ _ ?_
    refine Ok_rt (pfact_ok (by first | exact Or.inl rfl | exact Or.inr rfl) rfl hp' hk' (by decide)) ?_
    refine And.intro (fun c6 => ?_) (fun c6 => ?_)
    · have w := z7 c6
      have v := q7 (24 + cF (h 26) (h 36 5) k 6 * 6 + s) (by omega) (by omega)
      have r := rnd_bd3 v.1 v.2 (show 0 ≤ rd (h 30) 132 1 by omega) (by omega)
      have m := rnd_bd v.1 (by omega) (show 0 ≤ rd (h 30) 132 1 by omega) (by omega)
      refine Ok_rt (pfact_ok (by first | exact Or.inl rfl | exact Or.inr rfl) rfl hp' hk' (by decide)) ?_
      refine Ok_rt (measured_ok (Or.inr (Or.inr rfl)) (by omega) (by omega)) ?_
      refine Ok_rt (cell_ok (Or.inr (Or.inr rfl))) ?_
      refine And.intro (show inR (rd (h 30) 132 (24 + cF (h 26) (h 36 5) k 6 * 6 + s) * rd (h 30) 132 1) from ⟨by omega, by omega⟩) ?_
      refine And.intro (show inR (rd (h 30) 132 (24 + cF (h 26) (h 36 5) k 6 * 6 + s) * rd (h 30) 132 1 + 50) from ⟨by omega, by omega⟩) ?_
      refine And.intro ⟨by decide, (show inR (rnd (rd (h 30) 132 (24 + cF (h 26) (h 36 5) k 6 * 6 + s)) (rd (h 30) 132 1)) from ⟨by omega, by omega⟩)⟩ ?_
      refine Ok_rt (pfact_ok (by first | exact Or.inl rfl | exact Or.inr rfl) rfl hp' hk' (by decide)) ?_
      refine And.intro (fun c53 => ?_) (fun c53 => ?_)
      · have c1 := (p5 (cF (h 26) (h 36 5) k 8) (by omega) (by omega)).1
        refine Ok_rt (chartRowTotal_ok (Or.inr rfl)) ?_
        refine Ok_rt (nearest_ok ⟨r.1, by exact Int.le_trans r.2 (by decide)⟩ ⟨c1.1, by exact Int.le_trans c1.2 (by decide)⟩ (by omega)) ?_
        exact rt_mk (by unfold cRw; rw [if_neg c6, if_neg c53]; rfl) rfl
      · exact rt_mk (by unfold cRw; rw [if_neg c6, if_pos c53]; rfl) rfl
    · exact rt_mk (by unfold cRw; rw [if_pos c6]) rfl

theorem cG_num {W E G M R : Int} (w0 : 0 ≤ W) (w1 : W ≤ 3000) (e0 : -999 ≤ E) (e1 : E ≤ 999) (g0 : 0 ≤ G) (g1 : G ≤ 99) (m0 : 1 ≤ M) (m1 : M ≤ 30) (r0 : 0 ≤ R) (r1 : R < M) :
    inR (W + E) ∧ inR (max (W + E) 0 * G) ∧ inR (max (W + E) 0 * G + 50) ∧ inR (rnd (max (W + E) 0) G) ∧ (0 ≤ rnd (max (W + E) 0) G ∧ rnd (max (W + E) 0) G ≤ 1000000) ∧ inR (nearF (rnd (max (W + E) 0) G) M R + M) := by
  have m := rnd_bd (v := max (W + E) 0) (by omega) (by omega) g0 g1
  have nb := near_bd m.2.2.1 m0 r0 r1
  obtain ⟨a1, a2, a3, a4⟩ := m
  obtain ⟨b1, b2, -, -⟩ := nb
  exact ⟨⟨by omega, by omega⟩, ⟨by omega, by omega⟩, ⟨by omega, by omega⟩, ⟨by omega, by omega⟩, ⟨by omega, by omega⟩, ⟨by omega, by omega⟩⟩

theorem countGoal31_ok (hP : PatOK tot (h 22) (h 23) (h 24) pc (h 26)) (hS : StOK (h 28)) (hs : 0 ≤ s ∧ s < 6) (hp : 0 ≤ p ∧ p < rd tot 4 3) (hk : 0 ≤ k ∧ k < rd pc 6 p) (h5 : h 31 5 = p) : Ok 38 [vR 31, vR 27, vI s, vI k, vI x] (LC N) h (rt (some (vI (if cF (h 26) p k 0 = 1 then x else cGl (h 26) (h 28) s p k))) (LC N) h) := by
  subst h5
  obtain ⟨-, p2, p3, p4, p5, p6⟩ := id hP
  obtain ⟨q1, q2, -, -, -, -, q7, q8⟩ := id hS
  have pp := p6 _ hp.1 hp.2
  obtain ⟨z1, z2, z3, z4, z5, z6, z7, z8, z9, z10⟩ := pp.2 k hk.1 hk.2
  have hk' : -1 ≤ k ∧ k ≤ 1000 := by omega
  have hp' : 0 ≤ h 31 5 ∧ h 31 5 ≤ 10 := by omega
  have hb9 : isPl 31 := (by first | exact Or.inl rfl | exact Or.inr rfl)
  have hkk : -1000 ≤ k ∧ k ≤ 1000 := by omega
  have hpp : -1000 ≤ h 31 5 ∧ h 31 5 ≤ 1000 := by omega
  have hss : -1000 ≤ s ∧ s ≤ 1000 := by omega
  have f0 := pfact_ok (N := N) (h := h) (k := k) (w := 0) hb9 rfl hp' hk' (by decide)
  have f2 := pfact_ok (N := N) (h := h) (k := k) (w := 2) hb9 rfl hp' hk' (by decide)
  have f4 := pfact_ok (N := N) (h := h) (k := k) (w := 4) hb9 rfl hp' hk' (by decide)
  have f5 := pfact_ok (N := N) (h := h) (k := k) (w := 5) hb9 rfl hp' hk' (by decide)
  have z5' := z5
  clear z1 z2 z3 z4 z5 z6 z7 z8 z9 z10
  by_cases c7 : cF (h 26) (h 31 5) k 0 = 1
  · rw [if_pos c7]
    refine ok_body B_X3_countGoal rfl (fun X hX => ?_)
    refine hX 60 [] 0 _ _ _ _ _ _ ?_
    refine Ok_rt f0 ?_
    refine And.intro (fun d7 => absurd c7 d7) (fun _ => ?_)
    exact rt_mk rfl rfl
  · rw [if_neg c7]
    obtain ⟨w1, w2, w3⟩ := z5' c7
    clear z5'
    have v := q7 (24 + cF (h 26) (h 31 5) k 2 * 6 + s) (by omega) (by omega)
    have e := q8 (72 + h 31 5 * 10 + k) (by omega) (by omega)
    have w9 : -1000 ≤ cF (h 26) (h 31 5) k 2 ∧ cF (h 26) (h 31 5) k 2 ≤ 1000 := by omega
    have w3' : 0 ≤ cF (h 26) (h 31 5) k 5 ∧ cF (h 26) (h 31 5) k 5 ≤ 1000000 := by omega
    obtain ⟨i1, i2, i3, i4, i6, i5⟩ := cG_num (W := rd (h 28) 132 (24 + cF (h 26) (h 31 5) k 2 * 6 + s)) (E := rd (h 28) 132 (72 + h 31 5 * 10 + k)) (G := rd (h 28) 132 0) (M := cF (h 26) (h 31 5) k 4) (R := cF (h 26) (h 31 5) k 5) v.1 v.2 e.1 e.2 (Int.le_trans (by decide) q1.1) q1.2 w2.1 w2.2 w3.1 w3.2
    have k2 : Ok 104 [vR 27, vI (cF (h 26) (h 31 5) k 2), vI s] (LC N) h (rt (some (vI (rd (h 28) 132 (24 + cF (h 26) (h 31 5) k 2 * 6 + s)))) (LC N) h) := measured_ok (Or.inr (Or.inl rfl)) w9 hss
    have k3 : Ok 106 [vR 27, vI (h 31 5), vI k] (LC N) h (rt (some (vI (rd (h 28) 132 (72 + h 31 5 * 10 + k)))) (LC N) h) := easeOf_ok (Or.inr (Or.inl rfl)) hpp hkk
    have k4 : Ok 102 [vR 27, vI 0] (LC N) h (rt (some (vI (rd (h 28) 132 0))) (LC N) h) := cell_ok (Or.inr (Or.inl rfl))
    have k5 := nearest_ok (Λ := LC N) (h := h) (w := rnd (max (rd (h 28) 132 (24 + cF (h 26) (h 31 5) k 2 * 6 + s) + rd (h 28) 132 (72 + h 31 5 * 10 + k)) 0) (rd (h 28) 132 0)) (m := cF (h 26) (h 31 5) k 4) (r := cF (h 26) (h 31 5) k 5) i6 ⟨w2.1, Int.le_trans w2.2 (by decide)⟩ w3'
    have eN : cNr (h 26) (h 28) s (h 31 5) k = nearF (rnd (max (rd (h 28) 132 (24 + cF (h 26) (h 31 5) k 2 * 6 + s) + rd (h 28) 132 (72 + h 31 5 * 10 + k)) 0) (rd (h 28) 132 0)) (cF (h 26) (h 31 5) k 4) (cF (h 26) (h 31 5) k 5) := rfl
    rw [← eN] at k5 i5
    clear i6 e v w1 w2 w3 pp q1 q2 q7 q8 p2 p3 p4 p5 p6
    unfold cGl
    generalize cNr (h 26) (h 28) s (h 31 5) k = Z at *
    clear eN
    refine ok_body B_X3_countGoal rfl (fun X hX => ?_)
    refine hX 60 [79] 0 _ _ _ _ _ _ ?_
    refine Ok_rt f0 ?_
    refine And.intro (fun _ => ?_) (fun d7 => absurd d7 c7)
    refine Ok_rt f2 ?_
    refine Ok_rt k2 ?_
    refine Ok_rt k3 ?_
    refine And.intro i1 ?_
    refine Ok_rt max_ok ?_
    refine Ok_rt k4 ?_
    refine And.intro i2 ?_
    refine And.intro i3 ?_
    refine And.intro ⟨by decide, i4⟩ ?_
    refine Ok_rt f4 ?_
    refine Ok_rt f5 ?_
    refine Ok_rt k5 ?_
    have fin : ∀ u5 u6 : Int, X 79 [vR 31, vR 27, vI s, vI k, vI x, vI u5, vI u6, vI (cF (h 26) (h 31 5) k 4), vI Z] [] (LC N) h 0 0 := fun u5 u6 => by
      refine hX 20 [] 79 _ _ _ _ _ _ ?_
      refine And.intro (fun c82 => ?_) (fun c82 => ?_)
      · exact rt_mk (by rw [if_neg (Int.not_lt.mpr c82)]) rfl
      · refine And.intro i5 ?_
        exact rt_mk (by rw [if_pos c82]) rfl
    exact fin _ _

theorem countGoal36_ok (hP : PatOK tot (h 22) (h 23) (h 24) pc (h 26)) (hS : StOK (h 30)) (hs : 0 ≤ s ∧ s < 6) (hp : 0 ≤ p ∧ p < rd tot 4 3) (hk : 0 ≤ k ∧ k < rd pc 6 p) (h5 : h 36 5 = p) : Ok 38 [vR 36, vR 29, vI s, vI k, vI x] (LC N) h (rt (some (vI (if cF (h 26) p k 0 = 1 then x else cGl (h 26) (h 30) s p k))) (LC N) h) := by
  subst h5
  obtain ⟨-, p2, p3, p4, p5, p6⟩ := id hP
  obtain ⟨q1, q2, -, -, -, -, q7, q8⟩ := id hS
  have pp := p6 _ hp.1 hp.2
  obtain ⟨z1, z2, z3, z4, z5, z6, z7, z8, z9, z10⟩ := pp.2 k hk.1 hk.2
  have hk' : -1 ≤ k ∧ k ≤ 1000 := by omega
  have hp' : 0 ≤ h 36 5 ∧ h 36 5 ≤ 10 := by omega
  have hb9 : isPl 36 := (by first | exact Or.inl rfl | exact Or.inr rfl)
  have hkk : -1000 ≤ k ∧ k ≤ 1000 := by omega
  have hpp : -1000 ≤ h 36 5 ∧ h 36 5 ≤ 1000 := by omega
  have hss : -1000 ≤ s ∧ s ≤ 1000 := by omega
  have f0 := pfact_ok (N := N) (h := h) (k := k) (w := 0) hb9 rfl hp' hk' (by decide)
  have f2 := pfact_ok (N := N) (h := h) (k := k) (w := 2) hb9 rfl hp' hk' (by decide)
  have f4 := pfact_ok (N := N) (h := h) (k := k) (w := 4) hb9 rfl hp' hk' (by decide)
  have f5 := pfact_ok (N := N) (h := h) (k := k) (w := 5) hb9 rfl hp' hk' (by decide)
  have z5' := z5
  clear z1 z2 z3 z4 z5 z6 z7 z8 z9 z10
  by_cases c7 : cF (h 26) (h 36 5) k 0 = 1
  · rw [if_pos c7]
    refine ok_body B_X3_countGoal rfl (fun X hX => ?_)
    refine hX 60 [] 0 _ _ _ _ _ _ ?_
    refine Ok_rt f0 ?_
    refine And.intro (fun d7 => absurd c7 d7) (fun _ => ?_)
    exact rt_mk rfl rfl
  · rw [if_neg c7]
    obtain ⟨w1, w2, w3⟩ := z5' c7
    clear z5'
    have v := q7 (24 + cF (h 26) (h 36 5) k 2 * 6 + s) (by omega) (by omega)
    have e := q8 (72 + h 36 5 * 10 + k) (by omega) (by omega)
    have w9 : -1000 ≤ cF (h 26) (h 36 5) k 2 ∧ cF (h 26) (h 36 5) k 2 ≤ 1000 := by omega
    have w3' : 0 ≤ cF (h 26) (h 36 5) k 5 ∧ cF (h 26) (h 36 5) k 5 ≤ 1000000 := by omega
    obtain ⟨i1, i2, i3, i4, i6, i5⟩ := cG_num (W := rd (h 30) 132 (24 + cF (h 26) (h 36 5) k 2 * 6 + s)) (E := rd (h 30) 132 (72 + h 36 5 * 10 + k)) (G := rd (h 30) 132 0) (M := cF (h 26) (h 36 5) k 4) (R := cF (h 26) (h 36 5) k 5) v.1 v.2 e.1 e.2 (Int.le_trans (by decide) q1.1) q1.2 w2.1 w2.2 w3.1 w3.2
    have k2 : Ok 104 [vR 29, vI (cF (h 26) (h 36 5) k 2), vI s] (LC N) h (rt (some (vI (rd (h 30) 132 (24 + cF (h 26) (h 36 5) k 2 * 6 + s)))) (LC N) h) := measured_ok (Or.inr (Or.inr rfl)) w9 hss
    have k3 : Ok 106 [vR 29, vI (h 36 5), vI k] (LC N) h (rt (some (vI (rd (h 30) 132 (72 + h 36 5 * 10 + k)))) (LC N) h) := easeOf_ok (Or.inr (Or.inr rfl)) hpp hkk
    have k4 : Ok 102 [vR 29, vI 0] (LC N) h (rt (some (vI (rd (h 30) 132 0))) (LC N) h) := cell_ok (Or.inr (Or.inr rfl))
    have k5 := nearest_ok (Λ := LC N) (h := h) (w := rnd (max (rd (h 30) 132 (24 + cF (h 26) (h 36 5) k 2 * 6 + s) + rd (h 30) 132 (72 + h 36 5 * 10 + k)) 0) (rd (h 30) 132 0)) (m := cF (h 26) (h 36 5) k 4) (r := cF (h 26) (h 36 5) k 5) i6 ⟨w2.1, Int.le_trans w2.2 (by decide)⟩ w3'
    have eN : cNr (h 26) (h 30) s (h 36 5) k = nearF (rnd (max (rd (h 30) 132 (24 + cF (h 26) (h 36 5) k 2 * 6 + s) + rd (h 30) 132 (72 + h 36 5 * 10 + k)) 0) (rd (h 30) 132 0)) (cF (h 26) (h 36 5) k 4) (cF (h 26) (h 36 5) k 5) := rfl
    rw [← eN] at k5 i5
    clear i6 e v w1 w2 w3 pp q1 q2 q7 q8 p2 p3 p4 p5 p6
    unfold cGl
    generalize cNr (h 26) (h 30) s (h 36 5) k = Z at *
    clear eN
    refine ok_body B_X3_countGoal rfl (fun X hX => ?_)
    refine hX 60 [79] 0 _ _ _ _ _ _ ?_
    refine Ok_rt f0 ?_
    refine And.intro (fun _ => ?_) (fun d7 => absurd d7 c7)
    refine Ok_rt f2 ?_
    refine Ok_rt k2 ?_
    refine Ok_rt k3 ?_
    refine And.intro i1 ?_
    refine Ok_rt max_ok ?_
    refine Ok_rt k4 ?_
    refine And.intro i2 ?_
    refine And.intro i3 ?_
    refine And.intro ⟨by decide, i4⟩ ?_
    refine Ok_rt f4 ?_
    refine Ok_rt f5 ?_
    refine Ok_rt k5 ?_
    have fin : ∀ u5 u6 : Int, X 79 [vR 36, vR 29, vI s, vI k, vI x, vI u5, vI u6, vI (cF (h 26) (h 36 5) k 4), vI Z] [] (LC N) h 0 0 := fun u5 u6 => by
      refine hX 20 [] 79 _ _ _ _ _ _ ?_
      refine And.intro (fun c82 => ?_) (fun c82 => ?_)
      · exact rt_mk (by rw [if_neg (Int.not_lt.mpr c82)]) rfl
      · refine And.intro i5 ?_
        exact rt_mk (by rw [if_pos c82]) rfl
    exact fin _ _

theorem countGoal_ok (hb : isPS b o a) (hP : PatOK tot (h 22) (h 23) (h 24) pc (h 26)) (hS : StOK (h a)) (hs : 0 ≤ s ∧ s < 6) (hp : 0 ≤ p ∧ p < rd tot 4 3) (hk : 0 ≤ k ∧ k < rd pc 6 p) (h5 : h b 5 = p) : Ok 38 [vR b, vR o, vI s, vI k, vI x] (LC N) h (rt (some (vI (if cF (h 26) p k 0 = 1 then x else cGl (h 26) (h a) s p k))) (LC N) h) := by
  rcases hb with ⟨rfl, rfl, rfl⟩ | ⟨rfl, rfl, rfl⟩
  · exact countGoal31_ok hP hS hs hp hk h5
  · exact countGoal36_ok hP hS hs hp hk h5

theorem why_3 {kd ch per W R st gl : Int} (h : ch ≠ -1) (q : W < 1 ∨ st.tmod W ≠ 0) : 3 = whyV kd ch per W R st gl := by unfold whyV; rw [if_pos h, if_pos q]
theorem why_c0 {kd ch per W R st gl : Int} (h : ch ≠ -1) (q : ¬ W < 1) (q2 : st.tmod W = 0) : 0 = whyV kd ch per W R st gl := by unfold whyV; rw [if_pos h, if_neg (fun z => z.elim q (fun y => y q2))]
theorem why_n {kd ch per W R st gl : Int} (h : ch = -1) (q : kd ≠ 2 ∨ per < 1) : 0 = whyV kd ch per W R st gl := by unfold whyV; rw [if_neg (fun z => z h), if_pos q]
theorem why_1 {kd ch per W R st gl : Int} (h : ch = -1) (q : kd = 2) (q2 : 1 ≤ per) (r : (ab (gl - st)).tmod per ≠ 0) : 1 = whyV kd ch per W R st gl := by unfold whyV; rw [if_neg (fun z => z h), if_neg (fun z => z.elim (fun y => y q) (fun y => absurd q2 (Int.not_le.mpr y))), if_pos r]
theorem why_2 {kd ch per W R st gl : Int} (h : ch = -1) (q : kd = 2) (q2 : 1 ≤ per) (r : (ab (gl - st)).tmod per = 0) (t : R < (ab (gl - st)).tdiv per) : 2 = whyV kd ch per W R st gl := by unfold whyV; rw [if_neg (fun z => z h), if_neg (fun z => z.elim (fun y => y q) (fun y => absurd q2 (Int.not_le.mpr y))), if_neg (fun z => z r), if_pos t]
theorem why_0 {kd ch per W R st gl : Int} (h : ch = -1) (q : kd = 2) (q2 : 1 ≤ per) (r : (ab (gl - st)).tmod per = 0) (t : (ab (gl - st)).tdiv per ≤ R) : 0 = whyV kd ch per W R st gl := by unfold whyV; rw [if_neg (fun z => z h), if_neg (fun z => z.elim (fun y => y q) (fun y => absurd q2 (Int.not_le.mpr y))), if_neg (fun z => z r), if_neg (Int.not_lt.mpr t)]
theorem reason31_ok (h5 : h 31 5 = p) (hp' : 0 ≤ p ∧ p ≤ 10) (hk : 0 ≤ k ∧ k ≤ 10) (h8 : -1 ≤ cF (h 26) p k 8 ∧ cF (h 26) p k 8 ≤ 100) (hy : 0 ≤ y ∧ y ≤ 10000) (hz : 0 ≤ z ∧ z ≤ 10000) : Ok 40 [vR 31, vI k, vI x, vI y, vI z] (LC N) h (rt (some (vI (whyV (cF (h 26) p k 0) (cF (h 26) p k 8) (cF (h 26) p k 7) (rd (h 23) 32 (cF (h 26) p k 8 * 8 + 0)) x y z))) (LC N) h) := by
  subst h5
  have hb9 : isPl 31 := (by first | exact Or.inl rfl | exact Or.inr rfl)
  have hk' : -1 ≤ k ∧ k ≤ 1000 := by omega
  have h8' : -1000 ≤ cF (h 26) (h 31 5) k 8 ∧ cF (h 26) (h 31 5) k 8 ≤ 1000 := by omega
  have h1' : -2147483648 < z - y := by omega
  have h2' : z - y ≤ 2147483647 := by omega
  have h3' : inR (z - y) := ⟨by omega, by omega⟩
  have h4' := ab_bd (A := 10000) (x := z - y) (by omega) (by omega)
  refine ok_body B_X3_reasonAgainst rfl (fun X hX => ?_)
  refine hX 66 [] 0 _ _ _ _ _ _ ?_
  refine Ok_rt (pfact_ok hb9 rfl hp' hk' (by decide)) ?_
  refine And.intro (fun c12 => ?_) (fun c12 => ?_)
  · refine Ok_rt (pfact_ok hb9 rfl hp' hk' (by decide)) ?_
    refine Ok_rt (pfact_ok hb9 rfl hp' hk' (by decide)) ?_
    refine And.intro (fun c62 => ?_) (fun c62 => ?_)
    · exact rt_mk (congrArg (fun q => some (vI q)) (why_n c12 (Or.inl c62))) rfl
    · refine And.intro (fun c68 => ?_) (fun c68 => ?_)
      · refine And.intro h3' ?_
        refine Ok_rt (abs_ok h1' h2') ?_
        refine And.intro (nz c68) ?_
        refine And.intro (fun c87 => ?_) (fun c87 => ?_)
        · refine And.intro ⟨nz c68, td_in h4' c68⟩ ?_
          refine And.intro (fun c98 => ?_) (fun c98 => ?_)
          · exact rt_mk (congrArg (fun q => some (vI q)) (why_0 c12 c62 c68 c87 c98)) rfl
          · exact rt_mk (congrArg (fun q => some (vI q)) (why_2 c12 c62 c68 c87 c98)) rfl
        · exact rt_mk (congrArg (fun q => some (vI q)) (why_1 c12 c62 c68 c87)) rfl
      · exact rt_mk (congrArg (fun q => some (vI q)) (why_n c12 (Or.inr c68))) rfl
  · refine Ok_rt (taken_ok (Or.inr rfl) h8' (by decide)) ?_
    refine And.intro (fun c30 => ?_) (fun c30 => ?_)
    · exact rt_mk (congrArg (fun q => some (vI q)) (why_3 c12 (Or.inl c30))) rfl
    · refine And.intro (show rd (h 23) 32 (cF (h 26) (h 31 5) k 8 * 8 + 0) ≠ 0 from nz c30) ?_
      refine And.intro (fun c37 => ?_) (fun c37 => ?_)
      · exact rt_mk (congrArg (fun q => some (vI q)) (why_c0 c12 (Int.not_lt.mpr c30) c37)) rfl
      · exact rt_mk (congrArg (fun q => some (vI q)) (why_3 c12 (Or.inr c37))) rfl

theorem reason36_ok (h5 : h 36 5 = p) (hp' : 0 ≤ p ∧ p ≤ 10) (hk : 0 ≤ k ∧ k ≤ 10) (h8 : -1 ≤ cF (h 26) p k 8 ∧ cF (h 26) p k 8 ≤ 100) (hy : 0 ≤ y ∧ y ≤ 10000) (hz : 0 ≤ z ∧ z ≤ 10000) : Ok 40 [vR 36, vI k, vI x, vI y, vI z] (LC N) h (rt (some (vI (whyV (cF (h 26) p k 0) (cF (h 26) p k 8) (cF (h 26) p k 7) (rd (h 23) 32 (cF (h 26) p k 8 * 8 + 0)) x y z))) (LC N) h) := by
  subst h5
  have hb9 : isPl 36 := (by first | exact Or.inl rfl | exact Or.inr rfl)
  have hk' : -1 ≤ k ∧ k ≤ 1000 := by omega
  have h8' : -1000 ≤ cF (h 26) (h 36 5) k 8 ∧ cF (h 26) (h 36 5) k 8 ≤ 1000 := by omega
  have h1' : -2147483648 < z - y := by omega
  have h2' : z - y ≤ 2147483647 := by omega
  have h3' : inR (z - y) := ⟨by omega, by omega⟩
  have h4' := ab_bd (A := 10000) (x := z - y) (by omega) (by omega)
  refine ok_body B_X3_reasonAgainst rfl (fun X hX => ?_)
  refine hX 66 [] 0 _ _ _ _ _ _ ?_
  refine Ok_rt (pfact_ok hb9 rfl hp' hk' (by decide)) ?_
  refine And.intro (fun c12 => ?_) (fun c12 => ?_)
  · refine Ok_rt (pfact_ok hb9 rfl hp' hk' (by decide)) ?_
    refine Ok_rt (pfact_ok hb9 rfl hp' hk' (by decide)) ?_
    refine And.intro (fun c62 => ?_) (fun c62 => ?_)
    · exact rt_mk (congrArg (fun q => some (vI q)) (why_n c12 (Or.inl c62))) rfl
    · refine And.intro (fun c68 => ?_) (fun c68 => ?_)
      · refine And.intro h3' ?_
        refine Ok_rt (abs_ok h1' h2') ?_
        refine And.intro (nz c68) ?_
        refine And.intro (fun c87 => ?_) (fun c87 => ?_)
        · refine And.intro ⟨nz c68, td_in h4' c68⟩ ?_
          refine And.intro (fun c98 => ?_) (fun c98 => ?_)
          · exact rt_mk (congrArg (fun q => some (vI q)) (why_0 c12 c62 c68 c87 c98)) rfl
          · exact rt_mk (congrArg (fun q => some (vI q)) (why_2 c12 c62 c68 c87 c98)) rfl
        · exact rt_mk (congrArg (fun q => some (vI q)) (why_1 c12 c62 c68 c87)) rfl
      · exact rt_mk (congrArg (fun q => some (vI q)) (why_n c12 (Or.inr c68))) rfl
  · refine Ok_rt (taken_ok (Or.inr rfl) h8' (by decide)) ?_
    refine And.intro (fun c30 => ?_) (fun c30 => ?_)
    · exact rt_mk (congrArg (fun q => some (vI q)) (why_3 c12 (Or.inl c30))) rfl
    · refine And.intro (show rd (h 23) 32 (cF (h 26) (h 36 5) k 8 * 8 + 0) ≠ 0 from nz c30) ?_
      refine And.intro (fun c37 => ?_) (fun c37 => ?_)
      · exact rt_mk (congrArg (fun q => some (vI q)) (why_c0 c12 (Int.not_lt.mpr c30) c37)) rfl
      · exact rt_mk (congrArg (fun q => some (vI q)) (why_3 c12 (Or.inr c37))) rfl

end PLAN
