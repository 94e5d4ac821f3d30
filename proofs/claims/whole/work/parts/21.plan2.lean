/-! ===== Plan: rows, stitches, reasons ===== -/
section PLAN
variable {N : List CT} {h : HP} {b o a : Nat} {i j k s p x y z w : Int} {tot pc : Nat → Int}
theorem countRows_ok (hb : isPS b o a) (hP : PatOK tot (h 22) (h 23) (h 24) pc (h 26)) (hS : StOK (h a)) (hs : 0 ≤ s ∧ s < 6) (hp : 0 ≤ p ∧ p < rd tot 4 3) (hk : 0 ≤ k ∧ k < rd pc 6 p) (h5 : h b 5 = p) : Ok 37 [vR b, vR o, vI s, vI k] (LC N) h (rt (some (vI (cRw (h 22) (h 26) (h a) s p k))) (LC N) h) := by
  rcases hb with ⟨rfl, rfl, rfl⟩ | ⟨rfl, rfl, rfl⟩
  · subst h5
    obtain ⟨-, p2, p3, p4, p5, p6⟩ := id hP
    obtain ⟨q1, q2, -, -, -, -, q7, q8⟩ := id hS
    have pp := p6 _ hp.1 hp.2
    obtain ⟨z1, z2, z3, z4, z5, z6, z7, z8, z9, z10⟩ := pp.2 k hk.1 hk.2
    have hk' : -1 ≤ k ∧ k ≤ 1000 := by omega
    have hp' : 0 ≤ h 31 5 ∧ h 31 5 ≤ 10 := by omega
    refine ok_body B_X3_countRows rfl (fun X hX => ?_)
    refine hX 40 [] 0 _ _ _ _ _ _ ?_
    refine Ok_rt (pfact_ok (by first | exact Or.inl rfl | exact Or.inr rfl) rfl hp' hk' (by decide)) ?_
    refine And.intro (fun c6 => ?_) (fun c6 => ?_)
    · have w := z7 c6
      have v := q7 (24 + cF (h 26) (h 31 5) k 6 * 6 + s) (by omega) (by omega)
      have r := rnd_bd3 v.1 v.2 (show 0 ≤ rd (h 28) 132 1 by omega) (by omega)
      have m := rnd_bd v.1 (by omega) (show 0 ≤ rd (h 28) 132 1 by omega) (by omega)
      refine Ok_rt (pfact_ok (by first | exact Or.inl rfl | exact Or.inr rfl) rfl hp' hk' (by decide)) ?_
      refine Ok_rt (measured_ok (Or.inr (Or.inl rfl)) (by omega) (by omega)) ?_
      refine Ok_rt (cell_ok (Or.inr (Or.inl rfl))) ?_
      refine And.intro (show inR (rd (h 28) 132 (24 + cF (h 26) (h 31 5) k 6 * 6 + s) * rd (h 28) 132 1) from ⟨by omega, by omega⟩) ?_
      refine And.intro (show inR (rd (h 28) 132 (24 + cF (h 26) (h 31 5) k 6 * 6 + s) * rd (h 28) 132 1 + 50) from ⟨by omega, by omega⟩) ?_
      refine And.intro ⟨by decide, (show inR (rnd (rd (h 28) 132 (24 + cF (h 26) (h 31 5) k 6 * 6 + s)) (rd (h 28) 132 1)) from ⟨by omega, by omega⟩)⟩ ?_
      refine Ok_rt (pfact_ok (by first | exact Or.inl rfl | exact Or.inr rfl) rfl hp' hk' (by decide)) ?_
      refine And.intro (fun c53 => ?_) (fun c53 => ?_)
      · have c1 := (p5 (cF (h 26) (h 31 5) k 8) (by omega) (by omega)).1
        refine Ok_rt (chartRowTotal_ok (Or.inr rfl)) ?_
        refine Ok_rt (nearest_ok ⟨r.1, by exact Int.le_trans r.2 (by decide)⟩ ⟨c1.1, by exact Int.le_trans c1.2 (by decide)⟩ (by omega)) ?_
        exact rt_mk (by unfold cRw; rw [if_neg c6, if_neg c53]; rfl) rfl
      · exact rt_mk (by unfold cRw; rw [if_neg c6, if_pos c53]; rfl) rfl
    · exact rt_mk (by unfold cRw; rw [if_pos c6]) rfl
  · subst h5
    obtain ⟨-, p2, p3, p4, p5, p6⟩ := id hP
    obtain ⟨q1, q2, -, -, -, -, q7, q8⟩ := id hS
    have pp := p6 _ hp.1 hp.2
    obtain ⟨z1, z2, z3, z4, z5, z6, z7, z8, z9, z10⟩ := pp.2 k hk.1 hk.2
    have hk' : -1 ≤ k ∧ k ≤ 1000 := by omega
    have hp' : 0 ≤ h 36 5 ∧ h 36 5 ≤ 10 := by omega
    refine ok_body B_X3_countRows rfl (fun X hX => ?_)
    refine hX 40 [] 0 _ _ _ _ _ _ ?_
    refine Ok_rt (pfact_ok (by first | exact Or.inl rfl | exact Or.inr rfl) rfl hp' hk' (by decide)) ?_
    refine And.intro (fun c6 => ?_) (fun c6 => ?_)
    · have w := z7 c6
      have v := q7 (24 + cF (h 26) (h 36 5) k 6 * 6 + s) (by omega) (by omega)
      have r := rnd_bd3 v.1 v.2 (show 0 ≤ rd (h 30) 132 1 by omega) (by omega)
      have m := rnd_bd v.1 (by omega) (show 0 ≤ rd (h 30) 132 1 by omega) (by omega)
      refine Ok_rt (pfact_ok (by first | exact Or.inl rfl | exact Or.inr rfl) rfl hp' hk' (by decide)) ?_
      refine Ok_rt (measured_ok (Or.inr (Or.inr rfl)) (by omega) (by omega)) ?_
      refine Ok_rt (cell_ok (Or.inr (Or.inr rfl))) ?_
      refine And.intro (show inR (rd (h 30) 132 (24 + cF (h 26) (h 36 5) k 6 * 6 + s) * rd (h 30) 132 1) from ⟨by omega, by omega⟩) ?_
      refine And.intro (show inR (rd (h 30) 132 (24 + cF (h 26) (h 36 5) k 6 * 6 + s) * rd (h 30) 132 1 + 50) from ⟨by omega, by omega⟩) ?_
      refine And.intro ⟨by decide, (show inR (rnd (rd (h 30) 132 (24 + cF (h 26) (h 36 5) k 6 * 6 + s)) (rd (h 30) 132 1)) from ⟨by omega, by omega⟩)⟩ ?_
      refine Ok_rt (pfact_ok (by first | exact Or.inl rfl | exact Or.inr rfl) rfl hp' hk' (by decide)) ?_
      refine And.intro (fun c53 => ?_) (fun c53 => ?_)
      · have c1 := (p5 (cF (h 26) (h 36 5) k 8) (by omega) (by omega)).1
        refine Ok_rt (chartRowTotal_ok (Or.inr rfl)) ?_
        refine Ok_rt (nearest_ok ⟨r.1, by exact Int.le_trans r.2 (by decide)⟩ ⟨c1.1, by exact Int.le_trans c1.2 (by decide)⟩ (by omega)) ?_
        exact rt_mk (by unfold cRw; rw [if_neg c6, if_neg c53]; rfl) rfl
      · exact rt_mk (by unfold cRw; rw [if_neg c6, if_pos c53]; rfl) rfl
    · exact rt_mk (by unfold cRw; rw [if_pos c6]) rfl

theorem countGoal_ok (hb : isPS b o a) (hP : PatOK tot (h 22) (h 23) (h 24) pc (h 26)) (hS : StOK (h a)) (hs : 0 ≤ s ∧ s < 6) (hp : 0 ≤ p ∧ p < rd tot 4 3) (hk : 0 ≤ k ∧ k < rd pc 6 p) (h5 : h b 5 = p) : Ok 38 [vR b, vR o, vI s, vI k, vI x] (LC N) h (rt (some (vI (if cF (h 26) p k 0 = 1 then x else cGl (h 26) (h a) s p k))) (LC N) h) := by
  rcases hb with ⟨rfl, rfl, rfl⟩ | ⟨rfl, rfl, rfl⟩
  · subst h5
    obtain ⟨-, p2, p3, p4, p5, p6⟩ := id hP
    obtain ⟨q1, q2, -, -, -, -, q7, q8⟩ := id hS
    have pp := p6 _ hp.1 hp.2
    obtain ⟨z1, z2, z3, z4, z5, z6, z7, z8, z9, z10⟩ := pp.2 k hk.1 hk.2
    have hk' : -1 ≤ k ∧ k ≤ 1000 := by omega
    have hp' : 0 ≤ h 31 5 ∧ h 31 5 ≤ 10 := by omega
    refine ok_body B_X3_countGoal rfl (fun X hX => ?_)
    refine hX 60 [] 0 _ _ _ _ _ _ ?_
    refine Ok_rt (pfact_ok (by first | exact Or.inl rfl | exact Or.inr rfl) rfl hp' hk' (by decide)) ?_
    refine And.intro (fun c7 => ?_) (fun c7 => ?_)
    · obtain ⟨w1, w2, w3⟩ := z5 c7
      have v := q7 (24 + cF (h 26) (h 31 5) k 2 * 6 + s) (by omega) (by omega)
      have e := q8 (72 + h 31 5 * 10 + k) (by omega) (by omega)
      have m := rnd_bd (v := max (rd (h 28) 132 (24 + cF (h 26) (h 31 5) k 2 * 6 + s) + rd (h 28) 132 (72 + h 31 5 * 10 + k)) 0) (by omega) (by omega) (show 0 ≤ rd (h 28) 132 0 by omega) (by omega)
      have nb := near_bd m.2.2.1 w2.1 w3.1 w3.2
      refine Ok_rt (pfact_ok (by first | exact Or.inl rfl | exact Or.inr rfl) rfl hp' hk' (by decide)) ?_
      refine Ok_rt (measured_ok (Or.inr (Or.inl rfl)) (by omega) (by omega)) ?_
      refine Ok_rt (easeOf_ok (Or.inr (Or.inl rfl)) (by omega) (by omega)) ?_
      refine And.intro (show inR (rd (h 28) 132 (24 + cF (h 26) (h 31 5) k 2 * 6 + s) + rd (h 28) 132 (72 + h 31 5 * 10 + k)) from ⟨by omega, by omega⟩) ?_
      refine Ok_rt max_ok ?_
      refine Ok_rt (cell_ok (Or.inr (Or.inl rfl))) ?_
      refine And.intro (show inR (max (rd (h 28) 132 (24 + cF (h 26) (h 31 5) k 2 * 6 + s) + rd (h 28) 132 (72 + h 31 5 * 10 + k)) 0 * rd (h 28) 132 0) from ⟨by omega, by omega⟩) ?_
      refine And.intro (show inR (max (rd (h 28) 132 (24 + cF (h 26) (h 31 5) k 2 * 6 + s) + rd (h 28) 132 (72 + h 31 5 * 10 + k)) 0 * rd (h 28) 132 0 + 50) from ⟨by omega, by omega⟩) ?_
      refine And.intro ⟨by decide, (show inR (rnd (max (rd (h 28) 132 (24 + cF (h 26) (h 31 5) k 2 * 6 + s) + rd (h 28) 132 (72 + h 31 5 * 10 + k)) 0) (rd (h 28) 132 0)) from ⟨by omega, by omega⟩)⟩ ?_
      refine Ok_rt (pfact_ok (by first | exact Or.inl rfl | exact Or.inr rfl) rfl hp' hk' (by decide)) ?_
      refine Ok_rt (pfact_ok (by first | exact Or.inl rfl | exact Or.inr rfl) rfl hp' hk' (by decide)) ?_
      refine Ok_rt (nearest_ok ⟨m.2.2.1, Int.le_trans m.2.2.2 (by decide)⟩ ⟨w2.1, Int.le_trans w2.2 (by decide)⟩ (by omega)) ?_
      have eN : cNr (h 26) (h 28) s (h 31 5) k = nearF (rnd (max (rd (h 28) 132 (24 + cF (h 26) (h 31 5) k 2 * 6 + s) + rd (h 28) 132 (72 + h 31 5 * 10 + k)) 0) (rd (h 28) 132 0)) (cF (h 26) (h 31 5) k 4) (cF (h 26) (h 31 5) k 5) := rfl
      refine And.intro (fun c82 => ?_) (fun c82 => ?_)
      · exact rt_mk (by rw [if_neg c7]; unfold cGl; rw [eN, if_neg (Int.not_lt.mpr c82)]; rfl) rfl
      · refine And.intro (show inR (nearF (rnd (max (rd (h 28) 132 (24 + cF (h 26) (h 31 5) k 2 * 6 + s) + rd (h 28) 132 (72 + h 31 5 * 10 + k)) 0) (rd (h 28) 132 0)) (cF (h 26) (h 31 5) k 4) (cF (h 26) (h 31 5) k 5) + cF (h 26) (h 31 5) k 4) from ⟨by omega, by omega⟩) ?_
        exact rt_mk (by rw [if_neg c7]; unfold cGl; rw [eN, if_pos c82]; rfl) rfl
    · exact rt_mk (by rw [if_pos c7]) rfl
  · subst h5
    obtain ⟨-, p2, p3, p4, p5, p6⟩ := id hP
    obtain ⟨q1, q2, -, -, -, -, q7, q8⟩ := id hS
    have pp := p6 _ hp.1 hp.2
    obtain ⟨z1, z2, z3, z4, z5, z6, z7, z8, z9, z10⟩ := pp.2 k hk.1 hk.2
    have hk' : -1 ≤ k ∧ k ≤ 1000 := by omega
    have hp' : 0 ≤ h 36 5 ∧ h 36 5 ≤ 10 := by omega
    refine ok_body B_X3_countGoal rfl (fun X hX => ?_)
    refine hX 60 [] 0 _ _ _ _ _ _ ?_
    refine Ok_rt (pfact_ok (by first | exact Or.inl rfl | exact Or.inr rfl) rfl hp' hk' (by decide)) ?_
    refine And.intro (fun c7 => ?_) (fun c7 => ?_)
    · obtain ⟨w1, w2, w3⟩ := z5 c7
      have v := q7 (24 + cF (h 26) (h 36 5) k 2 * 6 + s) (by omega) (by omega)
      have e := q8 (72 + h 36 5 * 10 + k) (by omega) (by omega)
      have m := rnd_bd (v := max (rd (h 30) 132 (24 + cF (h 26) (h 36 5) k 2 * 6 + s) + rd (h 30) 132 (72 + h 36 5 * 10 + k)) 0) (by omega) (by omega) (show 0 ≤ rd (h 30) 132 0 by omega) (by omega)
      have nb := near_bd m.2.2.1 w2.1 w3.1 w3.2
      refine Ok_rt (pfact_ok (by first | exact Or.inl rfl | exact Or.inr rfl) rfl hp' hk' (by decide)) ?_
      refine Ok_rt (measured_ok (Or.inr (Or.inr rfl)) (by omega) (by omega)) ?_
      refine Ok_rt (easeOf_ok (Or.inr (Or.inr rfl)) (by omega) (by omega)) ?_
      refine And.intro (show inR (rd (h 30) 132 (24 + cF (h 26) (h 36 5) k 2 * 6 + s) + rd (h 30) 132 (72 + h 36 5 * 10 + k)) from ⟨by omega, by omega⟩) ?_
      refine Ok_rt max_ok ?_
      refine Ok_rt (cell_ok (Or.inr (Or.inr rfl))) ?_
      refine And.intro (show inR (max (rd (h 30) 132 (24 + cF (h 26) (h 36 5) k 2 * 6 + s) + rd (h 30) 132 (72 + h 36 5 * 10 + k)) 0 * rd (h 30) 132 0) from ⟨by omega, by omega⟩) ?_
      refine And.intro (show inR (max (rd (h 30) 132 (24 + cF (h 26) (h 36 5) k 2 * 6 + s) + rd (h 30) 132 (72 + h 36 5 * 10 + k)) 0 * rd (h 30) 132 0 + 50) from ⟨by omega, by omega⟩) ?_
      refine And.intro ⟨by decide, (show inR (rnd (max (rd (h 30) 132 (24 + cF (h 26) (h 36 5) k 2 * 6 + s) + rd (h 30) 132 (72 + h 36 5 * 10 + k)) 0) (rd (h 30) 132 0)) from ⟨by omega, by omega⟩)⟩ ?_
      refine Ok_rt (pfact_ok (by first | exact Or.inl rfl | exact Or.inr rfl) rfl hp' hk' (by decide)) ?_
      refine Ok_rt (pfact_ok (by first | exact Or.inl rfl | exact Or.inr rfl) rfl hp' hk' (by decide)) ?_
      refine Ok_rt (nearest_ok ⟨m.2.2.1, Int.le_trans m.2.2.2 (by decide)⟩ ⟨w2.1, Int.le_trans w2.2 (by decide)⟩ (by omega)) ?_
      have eN : cNr (h 26) (h 30) s (h 36 5) k = nearF (rnd (max (rd (h 30) 132 (24 + cF (h 26) (h 36 5) k 2 * 6 + s) + rd (h 30) 132 (72 + h 36 5 * 10 + k)) 0) (rd (h 30) 132 0)) (cF (h 26) (h 36 5) k 4) (cF (h 26) (h 36 5) k 5) := rfl
      refine And.intro (fun c82 => ?_) (fun c82 => ?_)
      · exact rt_mk (by rw [if_neg c7]; unfold cGl; rw [eN, if_neg (Int.not_lt.mpr c82)]; rfl) rfl
      · refine And.intro (show inR (nearF (rnd (max (rd (h 30) 132 (24 + cF (h 26) (h 36 5) k 2 * 6 + s) + rd (h 30) 132 (72 + h 36 5 * 10 + k)) 0) (rd (h 30) 132 0)) (cF (h 26) (h 36 5) k 4) (cF (h 26) (h 36 5) k 5) + cF (h 26) (h 36 5) k 4) from ⟨by omega, by omega⟩) ?_
        exact rt_mk (by rw [if_neg c7]; unfold cGl; rw [eN, if_pos c82]; rfl) rfl
    · exact rt_mk (by rw [if_pos c7]) rfl

theorem why_3 {kd ch per W R st gl : Int} (h : ch ≠ -1) (q : W < 1 ∨ st.tmod W ≠ 0) : 3 = whyV kd ch per W R st gl := by unfold whyV; rw [if_pos h, if_pos q]
theorem why_c0 {kd ch per W R st gl : Int} (h : ch ≠ -1) (q : ¬ W < 1) (q2 : st.tmod W = 0) : 0 = whyV kd ch per W R st gl := by unfold whyV; rw [if_pos h, if_neg (fun z => z.elim q (fun y => y q2))]
theorem why_n {kd ch per W R st gl : Int} (h : ch = -1) (q : kd ≠ 2 ∨ per < 1) : 0 = whyV kd ch per W R st gl := by unfold whyV; rw [if_neg (fun z => z h), if_pos q]
theorem why_1 {kd ch per W R st gl : Int} (h : ch = -1) (q : kd = 2) (q2 : 1 ≤ per) (r : (ab (gl - st)).tmod per ≠ 0) : 1 = whyV kd ch per W R st gl := by unfold whyV; rw [if_neg (fun z => z h), if_neg (fun z => z.elim (fun y => y q) (fun y => absurd q2 (Int.not_le.mpr y))), if_pos r]
theorem why_2 {kd ch per W R st gl : Int} (h : ch = -1) (q : kd = 2) (q2 : 1 ≤ per) (r : (ab (gl - st)).tmod per = 0) (t : R < (ab (gl - st)).tdiv per) : 2 = whyV kd ch per W R st gl := by unfold whyV; rw [if_neg (fun z => z h), if_neg (fun z => z.elim (fun y => y q) (fun y => absurd q2 (Int.not_le.mpr y))), if_neg (fun z => z r), if_pos t]
theorem why_0 {kd ch per W R st gl : Int} (h : ch = -1) (q : kd = 2) (q2 : 1 ≤ per) (r : (ab (gl - st)).tmod per = 0) (t : (ab (gl - st)).tdiv per ≤ R) : 0 = whyV kd ch per W R st gl := by unfold whyV; rw [if_neg (fun z => z h), if_neg (fun z => z.elim (fun y => y q) (fun y => absurd q2 (Int.not_le.mpr y))), if_neg (fun z => z r), if_neg (Int.not_lt.mpr t)]
theorem reason31_ok (h5 : h 31 5 = p) (hp' : 0 ≤ p ∧ p ≤ 10) (hk : 0 ≤ k ∧ k ≤ 10) (h8 : -1 ≤ cF (h 26) p k 8 ∧ cF (h 26) p k 8 ≤ 100) (hy : 0 ≤ y ∧ y ≤ 10000) (hz : 0 ≤ z ∧ z ≤ 10000) : Ok 40 [vR 31, vI k, vI x, vI y, vI z] (LC N) h (rt (some (vI (whyV (cF (h 26) p k 0) (cF (h 26) p k 8) (cF (h 26) p k 7) (rd (h 23) 32 (cF (h 26) p k 8 * 8 + 0)) x y z))) (LC N) h) := by
  subst h5
  have hb9 : isPl 31 := (by first | exact Or.inl rfl | exact Or.inr rfl)
  have hk' : -1 ≤ k ∧ k ≤ 1000 := by omega
  have h8' : -1000 ≤ cF (h 26) (h 31 5) k 8 ∧ cF (h 26) (h 31 5) k 8 ≤ 1000 := by omega
  have h1' : -2147483648 < z - y := by omega
  have h2' : z - y ≤ 2147483647 := by omega
  have h3' : inR (z - y) := ⟨by omega, by omega⟩
  have h4' := ab_bd (A := 10000) (x := z - y) (by omega) (by omega)
  refine ok_body B_X3_reasonAgainst rfl (fun X hX => ?_)
  refine hX 66 [] 0 _ _ _ _ _ _ ?_
  refine Ok_rt (pfact_ok hb9 rfl hp' hk' (by decide)) ?_
  refine And.intro (fun c12 => ?_) (fun c12 => ?_)
  · refine Ok_rt (pfact_ok hb9 rfl hp' hk' (by decide)) ?_
    refine Ok_rt (pfact_ok hb9 rfl hp' hk' (by decide)) ?_
    refine And.intro (fun c62 => ?_) (fun c62 => ?_)
    · exact rt_mk (congrArg (fun q => some (vI q)) (why_n c12 (Or.inl c62))) rfl
    · refine And.intro (fun c68 => ?_) (fun c68 => ?_)
      · refine And.intro h3' ?_
        refine Ok_rt (abs_ok h1' h2') ?_
        refine And.intro (nz c68) ?_
        refine And.intro (fun c87 => ?_) (fun c87 => ?_)
        · refine And.intro ⟨nz c68, td_in h4' c68⟩ ?_
          refine And.intro (fun c98 => ?_) (fun c98 => ?_)
          · exact rt_mk (congrArg (fun q => some (vI q)) (why_0 c12 c62 c68 c87 c98)) rfl
          · exact rt_mk (congrArg (fun q => some (vI q)) (why_2 c12 c62 c68 c87 c98)) rfl
        · exact rt_mk (congrArg (fun q => some (vI q)) (why_1 c12 c62 c68 c87)) rfl
      · exact rt_mk (congrArg (fun q => some (vI q)) (why_n c12 (Or.inr c68))) rfl
  · refine Ok_rt (taken_ok (Or.inr rfl) h8' (by decide)) ?_
    refine And.intro (fun c30 => ?_) (fun c30 => ?_)
    · exact rt_mk (congrArg (fun q => some (vI q)) (why_3 c12 (Or.inl c30))) rfl
    · refine And.intro (show rd (h 23) 32 (cF (h 26) (h 31 5) k 8 * 8 + 0) ≠ 0 from nz c30) ?_
      refine And.intro (fun c37 => ?_) (fun c37 => ?_)
      · exact rt_mk (congrArg (fun q => some (vI q)) (why_c0 c12 (Int.not_lt.mpr c30) c37)) rfl
      · exact rt_mk (congrArg (fun q => some (vI q)) (why_3 c12 (Or.inr c37))) rfl

theorem reason36_ok (h5 : h 36 5 = p) (hp' : 0 ≤ p ∧ p ≤ 10) (hk : 0 ≤ k ∧ k ≤ 10) (h8 : -1 ≤ cF (h 26) p k 8 ∧ cF (h 26) p k 8 ≤ 100) (hy : 0 ≤ y ∧ y ≤ 10000) (hz : 0 ≤ z ∧ z ≤ 10000) : Ok 40 [vR 36, vI k, vI x, vI y, vI z] (LC N) h (rt (some (vI (whyV (cF (h 26) p k 0) (cF (h 26) p k 8) (cF (h 26) p k 7) (rd (h 23) 32 (cF (h 26) p k 8 * 8 + 0)) x y z))) (LC N) h) := by
  subst h5
  have hb9 : isPl 36 := (by first | exact Or.inl rfl | exact Or.inr rfl)
  have hk' : -1 ≤ k ∧ k ≤ 1000 := by omega
  have h8' : -1000 ≤ cF (h 26) (h 36 5) k 8 ∧ cF (h 26) (h 36 5) k 8 ≤ 1000 := by omega
  have h1' : -2147483648 < z - y := by omega
  have h2' : z - y ≤ 2147483647 := by omega
  have h3' : inR (z - y) := ⟨by omega, by omega⟩
  have h4' := ab_bd (A := 10000) (x := z - y) (by omega) (by omega)
  refine ok_body B_X3_reasonAgainst rfl (fun X hX => ?_)
  refine hX 66 [] 0 _ _ _ _ _ _ ?_
  refine Ok_rt (pfact_ok hb9 rfl hp' hk' (by decide)) ?_
  refine And.intro (fun c12 => ?_) (fun c12 => ?_)
  · refine Ok_rt (pfact_ok hb9 rfl hp' hk' (by decide)) ?_
    refine Ok_rt (pfact_ok hb9 rfl hp' hk' (by decide)) ?_
    refine And.intro (fun c62 => ?_) (fun c62 => ?_)
    · exact rt_mk (congrArg (fun q => some (vI q)) (why_n c12 (Or.inl c62))) rfl
    · refine And.intro (fun c68 => ?_) (fun c68 => ?_)
      · refine And.intro h3' ?_
        refine Ok_rt (abs_ok h1' h2') ?_
        refine And.intro (nz c68) ?_
        refine And.intro (fun c87 => ?_) (fun c87 => ?_)
        · refine And.intro ⟨nz c68, td_in h4' c68⟩ ?_
          refine And.intro (fun c98 => ?_) (fun c98 => ?_)
          · exact rt_mk (congrArg (fun q => some (vI q)) (why_0 c12 c62 c68 c87 c98)) rfl
          · exact rt_mk (congrArg (fun q => some (vI q)) (why_2 c12 c62 c68 c87 c98)) rfl
        · exact rt_mk (congrArg (fun q => some (vI q)) (why_1 c12 c62 c68 c87)) rfl
      · exact rt_mk (congrArg (fun q => some (vI q)) (why_n c12 (Or.inr c68))) rfl
  · refine Ok_rt (taken_ok (Or.inr rfl) h8' (by decide)) ?_
    refine And.intro (fun c30 => ?_) (fun c30 => ?_)
    · exact rt_mk (congrArg (fun q => some (vI q)) (why_3 c12 (Or.inl c30))) rfl
    · refine And.intro (show rd (h 23) 32 (cF (h 26) (h 36 5) k 8 * 8 + 0) ≠ 0 from nz c30) ?_
      refine And.intro (fun c37 => ?_) (fun c37 => ?_)
      · exact rt_mk (congrArg (fun q => some (vI q)) (why_c0 c12 (Int.not_lt.mpr c30) c37)) rfl
      · exact rt_mk (congrArg (fun q => some (vI q)) (why_3 c12 (Or.inr c37))) rfl

end PLAN
