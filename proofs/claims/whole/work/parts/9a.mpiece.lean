/-! ===== the model: a piece ===== -/
def POne (w g : HP) (p : Int) : Prop := rd (g 65) 6 p = rd (w 11) 6 p ∧ (1 ≤ rd (w 11) 6 p ∧ rd (w 11) 6 p ≤ 10) ∧ ∀ k, 0 ≤ k → k < rd (w 11) 6 p → PtC (g 66) (w 12) p k ∧ PtOK (w 7) (w 12) p k
/-- no ease is told from a part on -/
def EZ (w : HP) (p n : Int) : Prop := ∀ p' k, 0 ≤ p' → p' < 6 → 0 ≤ k → k < 10 → (p < p' ∨ (p' = p ∧ n ≤ k)) → rd (w 14) 132 (72 + p' * 10 + k) = 0
/-- the parts of a piece that is read -/
def PiP (w g : HP) (p n : Int) : Prop := rd (w 11) 6 p = n ∧ (∀ k, 0 ≤ k → k < n → PtC (g 66) (w 12) p k ∧ PtOK (w 7) (w 12) p k) ∧ EZ w p n
def EaR (v : HP) : Prop := EZ v (rd (v 7) 4 3) 0
theorem PtC_cg {f f' c c' : Nat → Int} {p k : Int} (hf : ∀ j, 0 ≤ j → j < 8 → rd f' 480 (8 * (10 * p + k) + j) = rd f 480 (8 * (10 * p + k) + j)) (hc : ∀ s, 0 ≤ s → s < 9 → cF c' p k s = cF c p k s) (H : PtC f c p k) : PtC f' c' p k := by
  unfold PtC at *
  rw [hf 0 (by decide) (by decide), hf 1 (by decide) (by decide), hf 2 (by decide) (by decide), hf 3 (by decide) (by decide), hf 4 (by decide) (by decide), hf 5 (by decide) (by decide), hf 6 (by decide) (by decide), hf 7 (by decide) (by decide), hc 0 (by decide) (by decide), hc 1 (by decide) (by decide), hc 2 (by decide) (by decide), hc 4 (by decide) (by decide), hc 5 (by decide) (by decide), hc 6 (by decide) (by decide), hc 7 (by decide) (by decide), hc 8 (by decide) (by decide)]
  exact H
theorem PtOK_cg {t c c' : Nat → Int} {p k : Int} (hc : ∀ s, 0 ≤ s → s < 9 → cF c' p k s = cF c p k s) (H : PtOK t c p k) : PtOK t c' p k := by
  unfold PtOK at *
  rw [hc 0 (by decide) (by decide), hc 1 (by decide) (by decide), hc 2 (by decide) (by decide), hc 4 (by decide) (by decide), hc 5 (by decide) (by decide), hc 6 (by decide) (by decide), hc 7 (by decide) (by decide), hc 8 (by decide) (by decide)]
  exact H
theorem PG_out {T : Nat} {w0 g0 w g : HP} {p n : Nat} {F G : Int → Int} {E : Int} (hp : p < 6 ∧ n < 10) (H : PG T w0 g0 w g p n F G E E) (z : w 4 10 = 0) (hG : GF F G) (hF : PtF (w0 7) F (n : Int)) (hE : -999 ≤ E ∧ E ≤ 999) (I : PiP w0 g0 (p : Int) (n : Int)) (S : StR w0 g0) :
    PiP w g (p : Int) ((n : Int) + 1) ∧ StR w g ∧ ∀ q, 0 ≤ q → q < (p : Int) → POne w0 g0 q → POne w g q := by
  obtain ⟨-, a, b, c, d⟩ := H
  obtain ⟨d1, d2, d3, d4⟩ := d z
  have e7 : w 7 = w0 7 := d3 7 (by decide) (by decide)
  have cO : ∀ q k s, 0 ≤ q → 0 ≤ k → k < 10 → 0 ≤ s → s < 9 → ¬ (q = (p : Int) ∧ k = (n : Int)) → cF (w 12) q k s = cF (w0 12) q k s := fun q k s q0 k0 k1 s0 s1 ne => by
    unfold cF
    rw [d1, if_neg (fun u => by omega)]
  have cN : ∀ s, 0 ≤ s → s < 9 → cF (w 12) (p : Int) (n : Int) s = F s := fun s s0 s1 => by
    unfold cF
    rw [d1, if_pos ⟨by omega, by omega⟩, show ((p : Int) * 10 + (n : Int)) * 9 + s - ((p : Int) * 10 + (n : Int)) * 9 = s by omega]
  have gO : ∀ q k j, 0 ≤ q → 0 ≤ k → k < 10 → 0 ≤ j → j < 8 → ¬ (q = (p : Int) ∧ k = (n : Int)) → rd (g 66) 480 (8 * (10 * q + k) + j) = rd (g0 66) 480 (8 * (10 * q + k) + j) := fun q k j q0 k0 k1 j0 j1 ne => by
    rw [b, if_neg (fun u => by omega)]
  have gN : ∀ j, 0 ≤ j → j < 8 → rd (g 66) 480 (8 * (10 * (p : Int) + (n : Int)) + j) = G j := fun j j0 j1 => by
    rw [b, if_pos ⟨by omega, by omega⟩, show 8 * (10 * (p : Int) + (n : Int)) + j - ((8 * (10 * p + n) : Nat) : Int) = j by omega]
  have old : ∀ q k, 0 ≤ q → 0 ≤ k → k < 10 → ¬ (q = (p : Int) ∧ k = (n : Int)) → PtC (g0 66) (w0 12) q k ∧ PtOK (w0 7) (w0 12) q k → PtC (g 66) (w 12) q k ∧ PtOK (w 7) (w 12) q k := fun q k q0 k0 k1 ne h => by
    rw [e7]
    exact ⟨PtC_cg (fun j j0 j1 => gO q k j q0 k0 k1 j0 j1 ne) (fun s s0 s1 => cO q k s q0 k0 k1 s0 s1 ne) h.1, PtOK_cg (fun s s0 s1 => cO q k s q0 k0 k1 s0 s1 ne) h.2⟩
  refine ⟨⟨by rw [d4, if_pos rfl], fun k k0 k1 => ?_, fun q k q0 q1 k0 k1 h => ?_⟩, ?_, fun q q0 q1 h => ?_⟩
  · by_cases y : k = (n : Int)
    · rw [y]
      obtain ⟨⟨g0', g1', g2', g3'⟩, g4', g5', g6', g7'⟩ := hG
      refine ⟨?_, ?_⟩
      · unfold PtC
        rw [gN 0 (by decide) (by decide), gN 1 (by decide) (by decide), gN 2 (by decide) (by decide), gN 3 (by decide) (by decide), gN 4 (by decide) (by decide), gN 5 (by decide) (by decide), gN 6 (by decide) (by decide), gN 7 (by decide) (by decide), cN 0 (by decide) (by decide), cN 1 (by decide) (by decide), cN 2 (by decide) (by decide), cN 4 (by decide) (by decide), cN 5 (by decide) (by decide), cN 6 (by decide) (by decide), cN 7 (by decide) (by decide), cN 8 (by decide) (by decide)]
        exact ⟨⟨g0', g1', g2', g3'⟩, g4', g5', g6', g7'⟩
      · unfold PtOK
        rw [cN 0 (by decide) (by decide), cN 1 (by decide) (by decide), cN 2 (by decide) (by decide), cN 4 (by decide) (by decide), cN 5 (by decide) (by decide), cN 6 (by decide) (by decide), cN 7 (by decide) (by decide), cN 8 (by decide) (by decide), e7]
        exact hF
    · exact old (p : Int) k (by omega) k0 (by omega) (fun u => y u.2) (I.2.1 k k0 (by omega))
  · rw [d2]
    have ne : ¬ (72 + q * 10 + k = 72 + (p : Int) * 10 + (n : Int)) := by omega
    rw [if_neg ne]
    exact I.2.2 q k q0 q1 k0 k1 (by omega)
  · obtain ⟨s1, s2⟩ := S
    have A := StC_ease (p := p) (k := n) (x := E) s1 s2 hp.1 hp.2
    have B := StOK_ease (i := 72 + 10 * p + n) (x := E) s2 (by omega) (by omega) hE
    have f1 : ∀ j, rd (g 67) 132 j = rd (upf (g0 67) (52 + 10 * p + n) E) 132 j := fun j => by rw [c, rd_upf (by omega)]
    have f2 : ∀ j, rd (w 14) 132 j = rd (upf (w0 14) (72 + 10 * p + n) E) 132 j := fun j => by
      rw [d2, rd_upf (by omega), show ((72 + 10 * p + n : Nat) : Int) = 72 + (p : Int) * 10 + (n : Int) by omega]
    exact ⟨StC_cg f1 f2 A, StOK_cg f2 B⟩
  · obtain ⟨h1, h2, h3⟩ := h
    have e11 : rd (w 11) 6 q = rd (w0 11) 6 q := by rw [d4, if_neg (by omega)]
    refine ⟨?_, by rw [e11]; exact h2, fun k k0 k1 => ?_⟩
    · rw [e11, a.1 65 (by decide) (by decide) (by decide)]; exact h1
    · rw [e11] at k1
      exact old q k q0 k0 (by omega) (fun u => by omega) (h3 k k0 k1)
theorem piL_stop {i : Int} : ∀ (m : Nat) (k : Int) (w : HP), ¬ (w 4 9 = 11 ∨ w 4 9 = 12) → piL i m k w = w
  | 0, _, _, _ => rfl
  | m + 1, k, w, h => by
    unfold piL
    rw [if_neg h]
/-- within the line of a piece -/
def TabP (w g : HP) : Prop := NmR w g ∧ (g 50 25 = rd (w 7) 4 0 ∧ g 50 26 = rd (w 7) 4 1 ∧ g 50 27 = rd (w 7) 4 2 ∧ g 50 28 + 1 = rd (w 7) 4 3) ∧ StR w g ∧ ChR w g ∧ ∀ q, 0 ≤ q → q < g 50 28 → POne w g q
theorem TabP_cg {v w g g' : HP} (H : TabP v g) (e : ∀ c, 6 ≤ c → c ≤ 14 → w c = v c) (f : ∀ c, 62 ≤ c → c ≤ 68 → g' c = g c) (q : ∀ p, 25 ≤ p → p ≤ 28 → g' 50 p = g 50 p) : TabP w g' := by
  unfold TabP NmR StR ChR POne at *
  rw [e 6 (by decide) (by decide), e 7 (by decide) (by decide), e 8 (by decide) (by decide), e 9 (by decide) (by decide), e 10 (by decide) (by decide), e 11 (by decide) (by decide), e 12 (by decide) (by decide), e 14 (by decide) (by decide), f 62 (by decide) (by decide), f 63 (by decide) (by decide), f 64 (by decide) (by decide), f 65 (by decide) (by decide), f 66 (by decide) (by decide), f 67 (by decide) (by decide), f 68 (by decide) (by decide), q 25 (by decide) (by decide), q 26 (by decide) (by decide), q 27 (by decide) (by decide), q 28 (by decide) (by decide)]
  exact H
theorem PiP_cg {v w g g' : HP} {p n : Int} (H : PiP v g p n) (e : ∀ c, 6 ≤ c → c ≤ 14 → w c = v c) (f : g' 66 = g 66) : PiP w g' p n := by
  unfold PiP EZ at *
  rw [e 7 (by decide) (by decide), e 11 (by decide) (by decide), e 12 (by decide) (by decide), e 14 (by decide) (by decide), f]
  exact H
section MPIECE
variable {M : List CT} {T : Nat} {v g : HP}
theorem m_pieceLine (H : LNR T v g) (k9 : v 4 9 = 9) (ea : EaR v) : Ok 205 [vR 50] (LL M) g (fun o Λ' g' => o = .inl none ∧ Λ' = LL M ∧ FrL g g' ∧ LNR T (piH v) g' ∧ (piH v 4 10 = 0 → rd (piH v 7) 4 3 = rd (v 7) 4 3 + 1 ∧ EaR (piH v))) := by
  obtain ⟨S, Tb⟩ := H
  have z : v 4 10 = 0 := SR_kz S k9 (by decide)
  have tb := Tb z
  have c3b := tb.1.1 3 (by decide)
  have ec3 : rd (v 7) 4 ((3 : Nat) : Int) = rd (v 7) 4 3 := rfl
  have ca3 : capI ((3 : Nat) : Int) = 6 := rfl
  have sz : g 50 25 = rd (v 7) 4 0 ∧ g 50 26 = rd (v 7) 4 1 ∧ g 50 27 = rd (v 7) 4 2 ∧ g 50 28 = rd (v 7) 4 3 := tb.2.1
  have r3 : rdA v 7 4 3 = rd (v 7) 4 3 := rfl
  obtain ⟨p, ep⟩ : ∃ p : Nat, g 50 28 = (p : Int) := ⟨(g 50 28).toNat, by omega⟩
  refine ok_body B_X9_pieceLine rfl (fun X hX => ?_)
  /- behind the parts -/
  have at75 : ∀ (w g1 : HP) (n : Nat), piH v = ptH (ptH w 13) 3 → SR T w g1 → FrS g g1 → p < 6 → (w 4 10 = 0 → (1 ≤ n ∧ n ≤ 10) ∧ TabP w g1 ∧ PiP w g1 (p : Int) (n : Int)) → X 75 [vR 50, vI (n : Int)] [] (LL M) g1 0 0 := by
    intro w g1 n ew S1 F1 p6 T1
    refine hX 40 [] 75 _ _ _ _ _ _ ?_
    refine Ok_mono (fun o' Λ' h2 hp => ?_) (m_word 9 13 ⟨by decide, by decide⟩ (by decide) S1)
    obtain ⟨e1, e2, x, e3, hb⟩ := hp
    subst e1
    rw [e2, e3]
    refine Ok_mono (fun o' Λ' g2 hp => ?_) (m_passes (k := 13) S1 (by decide) (fun _ => bI_iff hb))
    obtain ⟨e1, e2, F2, S2⟩ := hp
    subst e1
    subst e2
    refine Ok_mono (fun o' Λ' g3 hp => ?_) (m_semicolon S2)
    obtain ⟨e1, e2, F3, S3⟩ := hp
    subst e1
    subst e2
    have q28 : g3 50 28 = (p : Int) := (F3.2 28 (by decide)).trans ((F2.2 28 (by decide)).trans ((F1.2 28 (by decide)).trans ep))
    refine And.intro (show 0 ≤ g3 50 28 ∧ g3 50 28 < 6 from ⟨by omega, by omega⟩) ?_
    have u28 : up g3 65 (g3 50 28).toNat (n : Int) 50 28 = (p : Int) := (congrFun (up_cell (by decide)) 28).trans q28
    refine And.intro (show inR (up g3 65 (g3 50 28).toNat (n : Int) 50 28 + 1) from by rw [u28]; exact ⟨by omega, by omega⟩) ?_
    rw [u28, q28, Int.toNat_natCast]
    obtain ⟨g4, eg⟩ : ∃ g4 : HP, g4 = up (up g3 65 p (n : Int)) 50 28 ((p : Int) + 1) := ⟨_, rfl⟩
    have FT : FrT g1 g3 := FrT_tr F2 F3
    have F4 : FrL g g4 := by rw [eg]; exact FrL_tr (FrL_S (FrS_tr (FrS_tr F1 (FrS_T FT)) (FrS_up ⟨by decide, by decide⟩))) (FrL_uf ⟨by decide, by decide⟩)
    have fin : FrL g g4 ∧ LNR T (piH v) g4 ∧ (piH v 4 10 = 0 → rd (piH v 7) 4 3 = rd (v 7) 4 3 + 1 ∧ EaR (piH v)) := by
     refine ⟨F4, ⟨by rw [ew, eg]; exact SR_uf (SR_up S3 ⟨by decide, by decide⟩) ⟨by decide, by decide⟩, fun y => ?_⟩, fun y => ?_⟩
     · rw [ew] at y ⊢
       obtain ⟨hn, t, pi⟩ := T1 (pt_10 (pt_10 y).1).1
       have pc : ∀ c, c ≠ 4 → ptH (ptH w 13) 3 c = w c := fun c hc => by rw [pt_cell hc, pt_cell hc]
       have gc : ∀ c, c ≠ 50 → c ≠ 65 → g4 c = g1 c := fun c h0 h1 => by rw [eg, up_cell h0, up_cell h1, FT.1 c h0]
       have gq : ∀ q, 24 < q → q ≠ 28 → g4 50 q = g1 50 q := fun q h0 h1 => by rw [eg, up_ne h1, up_cell (by decide), FT.2 q (Or.inr h0)]
       have g28 : g4 50 28 = (p : Int) + 1 := by rw [eg, up_same]
       have o28 : g1 50 28 = (p : Int) := (F1.2 28 (by decide)).trans ep
       have g65 : ∀ q, rd (g4 65) 6 q = if q = (p : Int) then (n : Int) else rd (g1 65) 6 q := fun q => by
         rw [eg, up_cell (by decide), rd_up (by omega), FT.1 65 (by decide)]
       obtain ⟨a, b, c, d, f⟩ := t
       refine ⟨NmR_cg a (pc 6 (by decide)) (pc 7 (by decide)) (gc 68 (by decide) (by decide)), ⟨?_, ?_, ?_, ?_⟩, ?_, ?_, fun q q0 q1 => ?_⟩
       · rw [gq 25 (by decide) (by decide), pc 7 (by decide)]; exact b.1
       · rw [gq 26 (by decide) (by decide), pc 7 (by decide)]; exact b.2.1
       · rw [gq 27 (by decide) (by decide), pc 7 (by decide)]; exact b.2.2.1
       · rw [g28, pc 7 (by decide), ← b.2.2.2, o28]
       · unfold StR
         rw [gc 67 (by decide) (by decide), pc 14 (by decide)]; exact c
       · unfold ChR
         rw [pc 7 (by decide), pc 8 (by decide), pc 9 (by decide), pc 10 (by decide), gc 62 (by decide) (by decide), gc 63 (by decide) (by decide), gc 64 (by decide) (by decide)]
         exact d
       · rw [pc 7 (by decide), ← b.2.2.2, o28] at q1
         rw [pc 7 (by decide), pc 11 (by decide), pc 12 (by decide), gc 66 (by decide) (by decide), g65]
         by_cases u : q = (p : Int)
         · rw [if_pos u, u, pi.1]
           exact ⟨rfl, by omega, pi.2.1⟩
         · rw [if_neg u]
           exact f q q0 (by omega)
     · rw [ew] at y ⊢
       obtain ⟨hn, t, pi⟩ := T1 (pt_10 (pt_10 y).1).1
       have o28 : g1 50 28 = (p : Int) := (F1.2 28 (by decide)).trans ep
       have c3 := t.2.1.2.2.2
       have pc : ∀ c, c ≠ 4 → ptH (ptH w 13) 3 c = w c := fun c hc => by rw [pt_cell hc, pt_cell hc]
       unfold EaR EZ
       rw [pc 7 (by decide), pc 14 (by decide)]
       exact ⟨by omega, fun q k q0 q1 k0 k1 h => pi.2.2 q k q0 q1 k0 k1 (by omega)⟩
    rw [eg] at fin
    exact ⟨rfl, rfl, fin⟩
  /- a part -/
  have at64 : ∀ (n : Nat) (w g1 : HP), SR T w g1 → FrS g g1 → w 4 10 = 0 → n ≤ 10 → p < 6 → TabP w g1 → PiP w g1 (p : Int) (n : Int) →
      (∀ g2, SR T (plH p n w) g2 → FrS g g2 → (plH p n w 4 10 = 0 → n < 10 ∧ TabP (plH p n w) g2 ∧ PiP (plH p n w) g2 (p : Int) ((n + 1 : Nat) : Int)) → X 44 [vR 50, vI ((n + 1 : Nat) : Int)] [] (LL M) g2 0 0) → X 64 [vR 50, vI (n : Int)] [] (LL M) g1 0 0 := by
    intro n w g1 S1 F1 z1 hn p6 t pi nx
    have o28 : g1 50 28 = (p : Int) := (F1.2 28 (by decide)).trans ep
    refine hX 30 [44] 64 _ _ _ _ _ _ ?_
    refine Ok_mono (fun o' Λ' g2 hp => ?_) (mr_partLine (p := p) (n := n) S1 z1 p6 hn o28 t.1 t.2.1.2.1 t.2.1.2.2.1 pi.1 (fun n10 => pi.2.2 (p : Int) (n : Int) (by omega) (by omega) (by omega) (by omega) (Or.inr ⟨rfl, by omega⟩)))
    obtain ⟨e1, e2, F2, S2, K⟩ := hp
    subst e1
    subst e2
    refine And.intro (show inR ((n : Int) + 1) from ⟨by omega, by omega⟩) ?_
    refine nx g2 S2 (FrS_tr F1 (FrS_P F2)) (fun y => ?_)
    obtain ⟨n10, F, G, E, P, hG, hF, hE⟩ := K y
    obtain ⟨o1, o2, o3⟩ := PG_out ⟨p6, n10⟩ P y hG hF hE pi t.2.2.1
    have d3 := (P.2.2.2.2 y).2.2.1
    have e7 := d3 7 (by decide) (by decide)
    refine ⟨n10, ⟨NmR_cg t.1 (d3 6 (by decide) (by decide)) e7 (F2.1 68 (by decide) (by decide) (by decide)), ?_, o2, ?_, fun q q0 q1 => ?_⟩, o1⟩
    · rw [F2.2 25 (by decide), F2.2 26 (by decide), F2.2 27 (by decide), F2.2 28 (by decide), e7]
      exact t.2.1
    · unfold ChR
      rw [e7, d3 8 (by decide) (by decide), d3 9 (by decide) (by decide), d3 10 (by decide) (by decide), F2.1 62 (by decide) (by decide) (by decide), F2.1 63 (by decide) (by decide) (by decide), F2.1 64 (by decide) (by decide) (by decide)]
      exact t.2.2.2.1
    · rw [F2.2 28 (by decide)] at q1
      exact o3 q q0 (by omega) (t.2.2.2.2 q q0 q1)
  have loop : ∀ (m n : Nat) (w g1 : HP), n + m = 11 → 1 ≤ n → piH v = ptH (ptH (piL (piI v) m (n : Int) w) 13) 3 → SR T w g1 → FrS g g1 → p < 6 → (w 4 10 = 0 → n ≤ 10 ∧ piI v = (p : Int) ∧ TabP w g1 ∧ PiP w g1 (p : Int) (n : Int)) → X 44 [vR 50, vI (n : Int)] [] (LL M) g1 0 0 := by
    intro m
    induction m with
    | zero =>
      intro n w g1 hm h1 ew S1 F1 p6 T1
      have ew : piH v = ptH (ptH w 13) 3 := ew
      refine hX 30 [75] 44 _ _ _ _ _ _ ?_
      refine Ok_rt (m_isWrong S1) ?_
      by_cases z1 : w 4 10 = 0
      · have := (T1 z1).1
        omega
      · rw [if_neg z1]
        refine And.intro (fun _ => ?_) (fun y => absurd y (by decide))
        exact at75 w g1 n ew S1 F1 p6 (fun y => absurd y z1)
    | succ m ih =>
      intro n w g1 hm h1 ew S1 F1 p6 T1
      refine hX 30 [51, 75] 44 _ _ _ _ _ _ ?_
      refine Ok_rt (m_isWrong S1) ?_
      by_cases z1 : w 4 10 = 0
      · rw [if_pos z1]
        refine And.intro (fun y => absurd rfl y) (fun _ => ?_)
        obtain ⟨n10, ei, t, pi⟩ := T1 z1
        refine hX 30 [64, 75] 51 _ _ _ _ _ _ ?_
        refine And.intro (fun y => absurd (show (n : Int) = 0 from y) (by omega)) (fun _ => ?_)
        refine Ok_mono (fun o' Λ' h2 hp => ?_) (m_word 9 13 ⟨by decide, by decide⟩ (by decide) S1)
        obtain ⟨e1, e2, x, e3, hb⟩ := hp
        subst e1
        rw [e2, e3]
        rcases hb with ⟨k13, rfl⟩ | ⟨k13, rfl⟩
        · refine And.intro (fun _ => ?_) (fun y => absurd y (by decide))
          rw [piL_stop _ _ _ (by omega)] at ew
          exact at75 w g1 n ew S1 F1 p6 (fun _ => ⟨⟨h1, n10⟩, t, pi⟩)
        · refine And.intro (fun y => absurd rfl y) (fun _ => ?_)
          refine at64 n w g1 S1 F1 z1 n10 p6 t pi (fun g2 S2 F2 K => ?_)
          refine ih (n + 1) _ g2 (by omega) (by omega) ?_ S2 F2 p6 (fun y => ?_)
          · by_cases kk : w 4 9 = 11 ∨ w 4 9 = 12
            · have st : piL (piI v) (m + 1) (n : Int) w = piL (piI v) m ((n : Int) + 1) (piS (piI v) (n : Int) w) := by
                conv => lhs; unfold piL
                rw [if_pos kk]
              have e2 : plH p n w = piS (p : Int) (n : Int) w := by
                unfold plH
                rw [if_neg (by omega), if_pos kk]
              rw [st, ei] at ew
              rw [e2, ei]
              exact ew
            · rw [piL_stop _ _ _ kk] at ew
              have z2 : failH w 1 1 4 10 ≠ 0 := fun u => absurd (fail_10 (by decide) u).2 (by decide)
              have k1 : failH w 1 1 4 9 = -1 := (RT_fail S1.1.2 (by decide) (x := 1) (c := 1)).2.2.2.2.2 z2
              have e2 : plH p n w = failH w 1 1 := by
                unfold plH
                rw [if_neg (by omega), if_neg kk]
              have e3 : ptH w 13 = failH w 1 1 := by
                unfold ptH
                rw [if_neg k13, pass_er z2]
              rw [ew, e2, e3, piL_stop _ _ _ (by omega), pt_er (k := 13) z2]
          · obtain ⟨n9, t2, p2⟩ := K y
            exact ⟨by omega, ei, t2, p2⟩
      · rw [if_neg z1]
        refine And.intro (fun _ => ?_) (fun y => absurd y (by decide))
        rw [piL_stop _ _ _ (by rw [SR_k1 S1 z1]; decide)] at ew
        exact at75 w g1 n ew S1 F1 p6 (fun y => absurd y z1)
  refine hX 20 [14] 0 _ _ _ _ _ _ ?_
  refine And.intro (fun c => ?_) (fun c => ?_)
  · have c : g 50 28 ≠ 6 := c
    have p6 : p < 6 := by omega
    have eA : piA v = passH v := by
      unfold piA ptH
      rw [r3, if_neg (by omega), fail_0, if_pos k9, fail_0]
    refine hX 40 [42] 14 _ _ _ _ _ _ ?_
    refine Ok_rt (m_isWrong S) ?_
    rw [if_pos z]
    refine And.intro (fun _ => ?_) (fun y => absurd rfl y)
    refine Ok_mono (fun o' Λ' g1 hp => ?_) (m_tokenP S z (by omega))
    obtain ⟨e1, e2, F1, S1⟩ := hp
    subst e1
    subst e2
    rw [← eA] at S1
    have cA : ∀ q, q ≠ 4 → piA v q = v q := fun q hq => piA_cell hq
    have N1 : NmR (piA v) g1 := NmR_cg tb.1 (cA 6 (by decide)) (cA 7 (by decide)) (F1.1 68 (by decide))
    have q28 : g1 50 28 = g 50 28 := F1.2 28 (by decide)
    refine Ok_mono (fun o' Λ' g2 hp => ?_) (m_ownName (M := M) (i := 3) (f := 18) (c := g1 50 28) (b := 6) S1 (by decide) (fun _ => ⟨N1, rfl, by rw [cA 7 (by decide), q28]; exact sz.2.2.2, rfl⟩))
    obtain ⟨e1, e2, F2, S2, N2⟩ := hp
    subst e1
    subst e2
    refine Ok_mono (fun o' Λ' g3 hp => ?_) (m_semicolon S2)
    obtain ⟨e1, e2, F3, S3⟩ := hp
    subst e1
    subst e2
    have S3 : SR T (piB v) g3 := S3
    have FF : FrS g g3 := FrS_tr (FrS_tr (FrS_T F1) (FrS_N F2)) (FrS_T F3)
    refine hX 30 [44] 42 _ _ _ _ _ _ ?_
    show X 44 [_, vI 0] _ _ _ _ _
    by_cases zB : piB v 4 10 = 0
    · have zN := (pt_10 zB).1
      have cn := cnt_nn (v := piA v) (i := 3) ⟨by decide, by decide⟩ zN
      have d0 := cn 0
      have d1 := cn 1
      have d2 := cn 2
      have d3 := cn 3
      rw [if_pos rfl, cA 7 (by decide)] at d3
      rw [if_neg (by decide), cA 7 (by decide)] at d0 d1 d2
      have ne := nn_eq (v := piA v) (i := 3) zN
      have eI : piI v = (p : Int) := by
        unfold piI
        rw [ne.1, if_pos ne.2.1, rdA_cg (cA 7 (by decide)), r3, ← sz.2.2.2, ep]
      have bc : ∀ q, q ≠ 4 → piB v q = nnP (piA v) 3 q := fun q hq => by unfold piB; rw [pt_cell hq]
      have oc : ∀ q, q ≠ 4 → q ≠ 6 → q ≠ 7 → q ≠ 11 → piB v q = v q := fun q h4 h6 h7 h11 => piB_cell h4 h6 h7 h11
      have e11 : ∀ q, rd (piB v 11) 6 q = if q = (p : Int) then 0 else rd (v 11) 6 q := fun q => by
        rw [bc 11 (by decide), ne.2.2, passH_cell (by decide)]
        unfold addNameH
        rw [if_pos rfl, if_neg (by decide), rd_w, show rdA (piA v) (5 + 2) 4 3 = (p : Int) by rw [show (5 + 2 : Nat) = 7 from rfl, rdA_cg (cA 7 (by decide)), r3, ← sz.2.2.2, ep]]
        unfold addNameN
        rw [wrA_cell (by decide), wrA_cell (by decide), cA 11 (by decide)]
        by_cases w : q = (p : Int)
        · rw [if_pos ⟨by omega, by omega, w⟩, if_pos w]
        · rw [if_neg (fun u => w u.2.2), if_neg w]
      have gA : ChR (piA v) g1 := by
        unfold ChR
        rw [cA 7 (by decide), cA 8 (by decide), cA 9 (by decide), cA 10 (by decide), F1.1 62 (by decide), F1.1 63 (by decide), F1.1 64 (by decide)]
        exact tb.2.2.2.1
      have gC : ChR (nnP (piA v) 3) g2 := ChR_nn zN ⟨⟨by decide, by decide⟩, by decide⟩ (F2.1 62 (by decide) (by decide)) (F2.1 63 (by decide) (by decide)) (F2.1 64 (by decide) (by decide)) gA
      have t : TabP (piB v) g3 := by
        refine ⟨NmR_cg (N2 zN) (bc 6 (by decide)) (bc 7 (by decide)) (F3.1 68 (by decide)), ⟨?_, ?_, ?_, ?_⟩, ?_, ?_, fun q q0 q1 => ?_⟩
        · rw [FF.2 25 (by decide), bc 7 (by decide)]; exact sz.1.trans d0.symm
        · rw [FF.2 26 (by decide), bc 7 (by decide)]; exact sz.2.1.trans d1.symm
        · rw [FF.2 27 (by decide), bc 7 (by decide)]; exact sz.2.2.1.trans d2.symm
        · rw [FF.2 28 (by decide), bc 7 (by decide), sz.2.2.2]; exact d3.symm
        · unfold StR
          rw [oc 14 (by decide) (by decide) (by decide) (by decide), F3.1 67 (by decide), F2.1 67 (by decide) (by decide), F1.1 67 (by decide)]
          exact tb.2.2.1
        · unfold ChR
          rw [bc 7 (by decide), bc 8 (by decide), bc 9 (by decide), bc 10 (by decide), F3.1 62 (by decide), F3.1 63 (by decide), F3.1 64 (by decide)]
          exact gC
        · rw [FF.2 28 (by decide), ep] at q1
          have h := tb.2.2.2.2 q q0 (by rw [← sz.2.2.2, ep]; exact q1)
          have h11 : rd (piB v 11) 6 q = rd (v 11) 6 q := by rw [e11, if_neg (by omega)]
          refine ⟨?_, by rw [h11]; exact h.2.1, fun k k0 k1 => ?_⟩
          · rw [h11, F3.1 65 (by decide), F2.1 65 (by decide) (by decide), F1.1 65 (by decide)]; exact h.1
          · rw [h11] at k1
            have hk := h.2.2 k k0 k1
            rw [oc 12 (by decide) (by decide) (by decide) (by decide), bc 7 (by decide), F3.1 66 (by decide), F2.1 66 (by decide) (by decide), F1.1 66 (by decide)]
            exact ⟨hk.1, PtOK_le (by omega) (by omega) hk.2⟩
      have pi : PiP (piB v) g3 (p : Int) ((0 : Nat) : Int) := by
        refine ⟨by rw [e11, if_pos rfl]; rfl, fun k k0 k1 => absurd k1 (by omega), fun q k q0 q1 k0 k1 h => ?_⟩
        rw [oc 14 (by decide) (by decide) (by decide) (by decide)]
        exact ea q k q0 q1 k0 k1 (by omega)
      refine hX 30 [51] 44 _ _ _ _ _ _ ?_
      refine Ok_rt (m_isWrong S3) ?_
      rw [if_pos zB]
      refine And.intro (fun y => absurd rfl y) (fun _ => ?_)
      refine hX 30 [64] 51 _ _ _ _ _ _ ?_
      refine And.intro (fun _ => ?_) (fun y => absurd rfl y)
      refine at64 0 (piB v) g3 S3 FF zB (by omega) p6 t pi (fun g4 S4 F4 K => ?_)
      refine loop 10 1 _ g4 (by omega) (by omega) ?_ S4 F4 p6 (fun y => ?_)
      · have e2 : plH p 0 (piB v) = caH (piB v) (piI v) := by
          unfold plH
          rw [if_pos rfl, eI]
        rw [e2]
        rfl
      · obtain ⟨n9, t2, p2⟩ := K y
        exact ⟨by omega, eI, t2, p2⟩
    · have eU : piH v = ptH (ptH (piB v) 13) 3 := by
        unfold piH
        rw [ca_er zB, piL_stop _ _ _ (by rw [SR_k1 S3 zB]; decide)]
      refine hX 30 [75] 44 _ _ _ _ _ _ ?_
      refine Ok_rt (m_isWrong S3) ?_
      rw [if_neg zB]
      refine And.intro (fun _ => ?_) (fun y => absurd y (by decide))
      exact at75 (piB v) g3 0 eU S3 FF p6 (fun y => absurd y zB)
  · have c : g 50 28 = 6 := c
    have H1 := SR_fails (c := 5) (x := 1) S (by decide) (by decide)
    have z1 : failH v 1 5 4 10 ≠ 0 := fun w => absurd (fail_10 (by decide) w).2 (by decide)
    have k1 : failH v 1 5 4 9 = -1 := H1.1.2.2.2.2.2.2 z1
    have eA : piA v = failH v 1 5 := by
      unfold piA
      rw [r3, if_pos (by omega), pt_er z1]
    have eR : piH v = failH v 1 5 := by
      have b : piB v = failH v 1 5 := by unfold piB; rw [eA, nn_er z1, pt_er z1]
      unfold piH
      rw [b, ca_er z1, piL_stop _ _ _ (by omega), pt_er z1, pt_er z1]
    refine Ok_rt (m_fails S) ?_
    refine hX 30 [] 14 _ _ _ _ _ _ ?_
    refine Ok_rt (m_isWrong H1) ?_
    rw [if_neg z1]
    refine And.intro (fun y => absurd y (by decide)) (fun _ => ?_)
    exact ⟨rfl, rfl, FrL_T flG_fr, ⟨by rw [eR]; exact H1, fun y => absurd y (by rw [eR]; exact z1)⟩, fun y => absurd y (by rw [eR]; exact z1)⟩
end MPIECE
