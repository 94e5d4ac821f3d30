/-! ===== the model: a chart ===== -/
theorem cr_bad {v : HP} {i j : Int} (h : icV v = 0) : crH v i j = failH v 1 1 ∧ failH v 1 1 4 10 ≠ 0 := by
  have z1 : failH v 1 1 4 10 ≠ 0 := fun w => absurd (fail_10 (by decide) w).2 (by decide)
  have a : crA v j = failH v 1 1 := by unfold crA; rw [if_pos h, fail_er z1]
  have b : crB v i j = failH v 1 1 := by unfold crB; rw [a, fail_er z1]
  refine ⟨?_, z1⟩
  unfold crH crC
  rw [b, if_neg z1, pass_er z1]
theorem chL_stop {i : Int} : ∀ (m : Nat) (k : Int) (w : HP), ¬ (4 ≤ w 4 9) → chL i m k w = w
  | 0, _, _, _ => rfl
  | m + 1, k, w, h => by
    unfold chL
    rw [if_neg h]
/-- what is asked behind the rows -/
def chT (i : Int) (u : HP) : HP := ptH (failH u (clB u i) 6) 3
theorem chT_er {i : Int} {u : HP} (z : u 4 10 ≠ 0) : chT i u = u := by
  unfold chT
  rw [fail_er z, pt_er z]
theorem ChOne_cg {v w g g' : HP} {c : Int} (H : ChOne v g c) (e8 : w 8 = v 8) (e9 : w 9 = v 9) (e10 : w 10 = v 10) (f62 : g' 62 = g 62) (f63 : g' 63 = g 63) (f64 : g' 64 = g 64) : ChOne w g' c := by
  unfold ChOne at *
  rw [e8, e9, e10, f62, f63, f64]
  exact H
/-- within the line of a chart -/
def TabC (w g : HP) : Prop := NmR w g ∧ (g 50 25 = rd (w 7) 4 0 ∧ g 50 26 = rd (w 7) 4 1 ∧ g 50 27 + 1 = rd (w 7) 4 2 ∧ g 50 28 = rd (w 7) 4 3) ∧ StR w g ∧ (∀ c, 0 ≤ c → c < g 50 27 → ChOne w g c) ∧ PcR w g
section MCHART2
variable {M : List CT} {T : Nat} {v g : HP}
theorem m_chartLine (H : LNR T v g) (k20 : v 4 9 = 20) : Ok 201 [vR 50] (LL M) g (fun o Λ' g' => o = .inl none ∧ Λ' = LL M ∧ FrL g g' ∧ LNR T (chH v) g' ∧ (chH v 4 10 = 0 → rd (chH v 7) 4 2 = rd (v 7) 4 2 + 1)) := by
  obtain ⟨S, Tb⟩ := H
  have z : v 4 10 = 0 := by
    by_cases z : v 4 10 = 0
    · exact z
    · have := SR_k1 S z
      omega
  have tb := Tb z
  have O := SR_ok S z
  have at0 := OKR_at O S.1.2
  have c2b := tb.1.1 2 (by decide)
  have ec2 : rd (v 7) 4 ((2 : Nat) : Int) = rd (v 7) 4 2 := rfl
  have ca2 : capI ((2 : Nat) : Int) = 4 := rfl
  have sz : g 50 25 = rd (v 7) 4 0 ∧ g 50 26 = rd (v 7) 4 1 ∧ g 50 27 = rd (v 7) 4 2 ∧ g 50 28 = rd (v 7) 4 3 := tb.2.1
  have r2 : rdA v 7 4 2 = rd (v 7) 4 2 := rfl
  obtain ⟨i, ei⟩ : ∃ i : Nat, g 50 27 = (i : Int) := ⟨(g 50 27).toNat, by have := sz.2.2.1; omega⟩
  have eT : chH v = chT (chI v) (chC v) := rfl
  refine ok_body B_X9_chartLine rfl (fun X hX => ?_)
  /- the end of a line -/
  have at109 : ∀ (u g1 : HP) (n : Nat) (j2 : PV), chH v = ptH u 3 → SR T u g1 → FrS g g1 → i < 4 → (u 4 10 = 0 → (1 ≤ n ∧ n ≤ 8) ∧ TabC u g1 ∧ ChP u g1 (i : Int) (n : Int) ∧ rd (u 10) 32 ((i : Int) * 8 + ((n : Int) - 1)) = rd (u 9) 32 ((i : Int) * 8 + 0)) → X 109 [vR 50, vI (n : Int), j2] [] (LL M) g1 0 0 := by
    intro u g1 n j2 ew S1 F1 hi T1
    have q27 : g1 50 27 = (i : Int) := (F1.2 27 (by decide)).trans ei
    refine hX 30 [] 109 _ _ _ _ _ _ ?_
    refine And.intro (show 0 ≤ g1 50 27 ∧ g1 50 27 < 4 from ⟨by omega, by omega⟩) ?_
    have S2 : SR T u (up g1 62 (g1 50 27).toNat (n : Int)) := SR_up S1 ⟨by decide, by decide⟩
    refine Ok_mono (fun o' Λ' g2 hp => ?_) (m_semicolon S2)
    obtain ⟨e1, e2, F2, P⟩ := hp
    subst e1
    subst e2
    have p27 : g2 50 27 = (i : Int) := (F2.2 27 (by decide)).trans ((congrFun (up_cell (by decide)) 27).trans q27)
    refine And.intro (show inR (g2 50 27 + 1) from ⟨by omega, by omega⟩) ?_
    refine ⟨rfl, rfl, FrL_tr (FrL_S (FrS_tr F1 (FrS_tr (FrS_up ⟨by decide, by decide⟩) (FrS_T F2)))) (FrL_uf ⟨by decide, by decide⟩), ⟨by rw [ew]; exact SR_uf P ⟨by decide, by decide⟩, fun y => ?_⟩, fun y => ?_⟩
    · rw [ew] at y ⊢
      obtain ⟨hn, ⟨a, b, c, d, f⟩, p, cl⟩ := T1 (pt_10 y).1
      have pc : ∀ q, q ≠ 4 → ptH u 3 q = u q := fun q hq => pt_cell hq
      have gc : ∀ q, q ≠ 50 → q ≠ 62 → up g2 50 27 (g2 50 27 + 1) q = g1 q := fun q h0 h1 => by rw [up_cell h0, F2.1 q h0, up_cell h1]
      have gq : ∀ q, 24 < q → q ≠ 27 → up g2 50 27 (g2 50 27 + 1) 50 q = g1 50 q := fun q h0 h1 => by rw [up_ne h1, F2.2 q (Or.inr h0), up_cell (by decide)]
      have g62 : ∀ q, rd (up g2 50 27 (g2 50 27 + 1) 62) 4 q = if q = (i : Int) then (n : Int) else rd (g1 62) 4 q := fun q => by
        rw [up_cell (by decide), F2.1 62 (by decide), rd_up (by omega), q27, Int.toNat_natCast]
      refine ⟨NmR_cg a (pc 6 (by decide)) (pc 7 (by decide)) (gc 68 (by decide) (by decide)), ⟨?_, ?_, ?_, ?_⟩, ?_, fun c c0 c1 => ?_, ?_⟩
      · rw [gq 25 (by decide) (by decide), pc 7 (by decide)]; exact b.1
      · rw [gq 26 (by decide) (by decide), pc 7 (by decide)]; exact b.2.1
      · rw [up_same, pc 7 (by decide), p27, ← q27]; exact b.2.2.1
      · rw [gq 28 (by decide) (by decide), pc 7 (by decide)]; exact b.2.2.2
      · unfold StR
        rw [gc 67 (by decide) (by decide), pc 14 (by decide)]; exact c
      · rw [pc 7 (by decide), ← b.2.2.1, q27] at c1
        rw [pc 8 (by decide), pc 9 (by decide), pc 10 (by decide), gc 63 (by decide) (by decide), gc 64 (by decide) (by decide), g62]
        by_cases w : c = (i : Int)
        · subst w
          rw [if_pos rfl, p.1]
          refine ⟨⟨rfl, fun r r0 r1 => (p.2 r r0 r1).1⟩, ⟨by rw [p.1]; omega, fun r r0 r1 => ?_, ?_⟩⟩
          · rw [p.1] at r1
            exact (p.2 r r0 r1).2
          · rw [p.1]; exact cl
        · rw [if_neg w]
          exact d c c0 (by omega)
      · unfold PcR
        rw [pc 7 (by decide), pc 11 (by decide), pc 12 (by decide), gc 65 (by decide) (by decide), gc 66 (by decide) (by decide)]
        exact f
    · rw [ew] at y ⊢
      obtain ⟨hn, ⟨a, b, c, d, f⟩, -⟩ := T1 (pt_10 y).1
      rw [pt_cell (by decide), ← b.2.2.1, q27, ← ei, sz.2.2.1]
  /- behind the rows -/
  have at68 : ∀ (w g1 : HP) (n : Nat) (j2 : PV), chH v = chT (chI v) w → SR T w g1 → FrS g g1 → (w 4 10 = 0 → (i < 4 ∧ chI v = (i : Int) ∧ w 4 9 = 3) ∧ (1 ≤ n ∧ n ≤ 8) ∧ TabC w g1 ∧ ChP w g1 (i : Int) (n : Int)) → X 68 [vR 50, vI (n : Int), j2] [] (LL M) g1 0 0 := by
    intro w g1 n j2 ew S1 F1 T1
    refine hX 30 [76] 68 _ _ _ _ _ _ ?_
    refine Ok_rt (m_isWrong S1) ?_
    by_cases z1 : w 4 10 = 0
    · rw [if_pos z1]
      refine And.intro (fun _ => ?_) (fun y => absurd rfl y)
      obtain ⟨⟨i4, eI, k3⟩, hn, t, p⟩ := T1 z1
      have q27 : g1 50 27 = (i : Int) := (F1.2 27 (by decide)).trans ei
      have ecl : clB w (chI v) = if rd (w 10) 32 ((i : Int) * 8 + ((n : Int) - 1)) ≠ rd (w 9) 32 ((i : Int) * 8 + 0) then 1 else 0 := by
        have e8 : rdA w 8 4 (i : Int) = (n : Int) := p.1
        unfold clB
        rw [eI, e8, k3]
        show (if (3 : Int) = 3 ∧ rd (w 10) 32 ((i : Int) * 8 + ((n : Int) - 1)) ≠ rd (w 9) 32 ((i : Int) * 8 + 0) then (1 : Int) else 0) = _
        by_cases y : rd (w 10) 32 ((i : Int) * 8 + ((n : Int) - 1)) ≠ rd (w 9) 32 ((i : Int) * 8 + 0)
        · rw [if_pos ⟨rfl, y⟩, if_pos y]
        · rw [if_neg (fun u => y u.2), if_neg y]
      have m64 : g1 64 (8 * (i : Int) + (n : Int) - 1).toNat = rd (w 10) 32 ((i : Int) * 8 + ((n : Int) - 1)) := by
        have q := (p.2 ((n : Int) - 1) (by omega) (by omega)).1.2
        rw [rd_in (by omega) (by omega), show (8 * (i : Int) + ((n : Int) - 1)).toNat = (8 * (i : Int) + (n : Int) - 1).toNat by omega] at q
        exact q
      have m63 : g1 63 (8 * (i : Int)).toNat = rd (w 9) 32 ((i : Int) * 8 + 0) := by
        have q := (p.2 0 (by omega) (by omega)).1.1
        rw [rd_in (by omega) (by omega), show (8 * (i : Int) + 0).toNat = (8 * (i : Int)).toNat by omega] at q
        exact q
      refine hX 30 [84] 76 _ _ _ _ _ _ ?_
      refine And.intro (show inR (8 * g1 50 27) from ⟨by omega, by omega⟩) ?_
      rw [q27]
      show X 84 [_, _, vI (8 * (i : Int))] _ _ _ _ _
      refine hX 30 [109] 84 _ _ _ _ _ _ ?_
      refine And.intro (show inR (8 * (i : Int) + (n : Int)) from ⟨by omega, by omega⟩) ?_
      refine And.intro (show inR (8 * (i : Int) + (n : Int) - 1) from ⟨by omega, by omega⟩) ?_
      refine And.intro (show 0 ≤ 8 * (i : Int) + (n : Int) - 1 ∧ 8 * (i : Int) + (n : Int) - 1 < 32 from ⟨by omega, by omega⟩) ?_
      refine And.intro (show 0 ≤ 8 * (i : Int) ∧ 8 * (i : Int) < 32 from ⟨by omega, by omega⟩) ?_
      refine And.intro (fun c => ?_) (fun c => ?_)
      · have c : g1 64 (8 * (i : Int) + (n : Int) - 1).toNat = g1 63 (8 * (i : Int)).toNat := c
        rw [m64, m63] at c
        have e0 : failH w (clB w (chI v)) 6 = w := by rw [ecl, if_neg (fun y => y c), fail_0]
        exact at109 w g1 n _ (by rw [ew]; unfold chT; rw [e0]) S1 F1 i4 (fun _ => ⟨hn, t, p, c⟩)
      · have c : g1 64 (8 * (i : Int) + (n : Int) - 1).toNat ≠ g1 63 (8 * (i : Int)).toNat := c
        rw [m64, m63] at c
        have H1 := SR_fails (c := 6) (x := 1) S1 (by decide) (by decide)
        have z2 : failH w 1 6 4 10 ≠ 0 := fun y => absurd (fail_10 (by decide) y).2 (by decide)
        refine Ok_rt (m_fails S1) ?_
        exact at109 _ _ n _ (by rw [ew]; unfold chT; rw [ecl, if_pos c]) H1 (FrS_tr F1 (FrS_T flG_fr)) i4 (fun y => absurd y z2)
    · rw [if_neg z1]
      refine And.intro (fun y => absurd y (by decide)) (fun _ => ?_)
      rw [chT_er z1] at ew
      exact ⟨rfl, rfl, FrL_S F1, ⟨by rw [ew]; exact S1, fun y => absurd y (by rw [ew]; exact z1)⟩, fun y => absurd y (by rw [ew]; exact z1)⟩
  /- a row -/
  have at57 : ∀ (n : Nat) (w g1 : HP) (j2 : PV), SR T w g1 → FrS g g1 → w 4 10 = 0 → n ≤ 8 → (i < 4 ∧ chI v = (i : Int)) → TabC w g1 → ChP w g1 (i : Int) (n : Int) →
      (∀ g2, SR T (crH w (chI v) (n : Int)) g2 → FrS g g2 → (crH w (chI v) (n : Int) 4 10 = 0 → n < 8 ∧ TabC (crH w (chI v) (n : Int)) g2 ∧ ChP (crH w (chI v) (n : Int)) g2 (i : Int) ((n + 1 : Nat) : Int)) → X 38 [vR 50, vI ((n + 1 : Nat) : Int), j2] [] (LL M) g2 0 0) → X 57 [vR 50, vI (n : Int), j2] [] (LL M) g1 0 0 := by
    intro n w g1 j2 S1 F1 z1 hn hi t p nx
    have q27 : g1 50 27 = (i : Int) := (F1.2 27 (by decide)).trans ei
    refine hX 30 [38] 57 _ _ _ _ _ _ ?_
    refine Ok_mono (fun o' Λ' g2 hp => ?_) (mr_chartRow (i := i) (n := n) S1 z1 hi.1 q27 hn p)
    obtain ⟨e1, e2, F2, S2, K⟩ := hp
    subst e1
    subst e2
    have eS : crH w (i : Int) (n : Int) = crH w (chI v) (n : Int) := by rw [hi.2]
    rw [eS] at S2 K
    refine And.intro (show inR ((n : Int) + 1) from ⟨by omega, by omega⟩) ?_
    refine nx g2 S2 (FrS_tr F1 (FrS_R F2)) (fun y => ?_)
    obtain ⟨k8, p2, oth⟩ := K y
    have cc : ∀ q, q ≠ 4 → q ≠ 8 → q ≠ 9 → q ≠ 10 → crH w (chI v) (n : Int) q = w q := fun q h4 h8 h9 h10 => cr_cell h4 h8 h9 h10
    refine ⟨k8, ⟨NmR_cg t.1 (cc 6 (by decide) (by decide) (by decide) (by decide)) (cc 7 (by decide) (by decide) (by decide) (by decide)) (F2.1 68 (by decide) (by decide) (by decide)), ?_, ?_, fun c c0 c1 => ?_, ?_⟩, p2⟩
    · rw [F2.2 25 (by decide), F2.2 26 (by decide), F2.2 27 (by decide), F2.2 28 (by decide), cc 7 (by decide) (by decide) (by decide) (by decide)]
      exact t.2.1
    · unfold StR
      rw [F2.1 67 (by decide) (by decide) (by decide), cc 14 (by decide) (by decide) (by decide) (by decide)]
      exact t.2.2.1
    · rw [F2.2 27 (by decide)] at c1
      exact oth c c0 (by omega) (t.2.2.2.1 c c0 c1)
    · unfold PcR
      rw [F2.1 65 (by decide) (by decide) (by decide), F2.1 66 (by decide) (by decide) (by decide), cc 7 (by decide) (by decide) (by decide) (by decide), cc 11 (by decide) (by decide) (by decide) (by decide), cc 12 (by decide) (by decide) (by decide) (by decide)]
      exact t.2.2.2.2
  have loop : ∀ (m n : Nat) (w g1 : HP) (j2 : PV), n + m = 9 → 1 ≤ n → chH v = chT (chI v) (chL (chI v) m (n : Int) w) → SR T w g1 → FrS g g1 → (w 4 10 = 0 → n ≤ 8 ∧ (i < 4 ∧ chI v = (i : Int)) ∧ TabC w g1 ∧ ChP w g1 (i : Int) (n : Int)) → X 38 [vR 50, vI (n : Int), j2] [] (LL M) g1 0 0 := by
    intro m
    induction m with
    | zero =>
      intro n w g1 j2 hm h1 ew S1 F1 T1
      have ew : chH v = chT (chI v) w := ew
      refine hX 30 [68] 38 _ _ _ _ _ _ ?_
      refine Ok_rt (m_isWrong S1) ?_
      by_cases z1 : w 4 10 = 0
      · have := (T1 z1).1
        omega
      · rw [if_neg z1]
        refine And.intro (fun _ => ?_) (fun y => absurd y (by decide))
        exact at68 w g1 n j2 ew S1 F1 (fun y => absurd y z1)
    | succ m ih =>
      intro n w g1 j2 hm h1 ew S1 F1 T1
      refine hX 30 [45, 68] 38 _ _ _ _ _ _ ?_
      refine Ok_rt (m_isWrong S1) ?_
      by_cases z1 : w 4 10 = 0
      · rw [if_pos z1]
        refine And.intro (fun y => absurd rfl y) (fun _ => ?_)
        obtain ⟨n8, hi, t, p⟩ := T1 z1
        have O1 := SR_ok S1 z1
        have kd := OKR_kd O1 S1.1.2
        have e21 := O1.2.2.2.1.2.2.1
        refine hX 30 [57, 68] 45 _ _ _ _ _ _ ?_
        refine And.intro (fun y => absurd (show (n : Int) = 0 from y) (by omega)) (fun _ => ?_)
        refine And.intro (fun c => ?_) (fun c => ?_)
        · have c : g1 50 21 = 3 := c
          have k3 : w 4 9 = 3 := srt_3.mp (by rw [← e21]; exact c)
          rw [chL_stop _ _ _ (by omega)] at ew
          exact at68 w g1 n j2 ew S1 F1 (fun _ => ⟨⟨hi.1, hi.2, k3⟩, ⟨h1, n8⟩, t, p⟩)
        · have c : g1 50 21 ≠ 3 := c
          have k3 : w 4 9 ≠ 3 := fun y => c (by rw [e21]; exact srt_3.mpr y)
          refine at57 n w g1 j2 S1 F1 z1 n8 hi t p (fun g2 S2 F2 K => ?_)
          refine ih (n + 1) _ g2 j2 (by omega) (by omega) ?_ S2 F2 (fun y => ?_)
          · by_cases k4 : 4 ≤ w 4 9
            · have st : chL (chI v) (m + 1) (n : Int) w = chL (chI v) m ((n : Int) + 1) (crH w (chI v) (n : Int)) := by
                conv => lhs; unfold chL
                rw [if_pos k4]
              rw [st] at ew
              exact ew
            · rw [chL_stop _ _ _ k4] at ew
              have i0 : icV w = 0 := by unfold icV; rw [if_pos (by omega)]
              obtain ⟨b1, b2⟩ := cr_bad (i := chI v) (j := (n : Int)) i0
              have k1 : failH w 1 1 4 9 = -1 := (RT_fail S1.1.2 (by decide) (x := 1) (c := 1)).2.2.2.2.2 b2
              rw [ew, b1, chL_stop _ _ _ (by omega), chT_er b2]
              unfold chT
              have c0 : clB w (chI v) = 0 := by unfold clB; rw [if_neg (fun y => k3 y.1)]
              rw [c0, fail_0]
              unfold ptH
              rw [if_neg k3, pass_er b2]
          · obtain ⟨k8, t2, p2⟩ := K y
            exact ⟨by omega, hi, t2, p2⟩
      · rw [if_neg z1]
        refine And.intro (fun _ => ?_) (fun y => absurd y (by decide))
        rw [chL_stop _ _ _ (by rw [SR_k1 S1 z1]; decide)] at ew
        exact at68 w g1 n j2 ew S1 F1 (fun y => absurd y z1)
  refine hX 20 [13] 0 _ _ _ _ _ _ ?_
  refine And.intro (fun c => ?_) (fun c => ?_)
  · have c : g 50 27 ≠ 4 := c
    have i4 : i < 4 := by have := sz.2.2.1; omega
    have eA : chA v = passH v := by
      unfold chA ptH
      rw [r2, if_neg (by have := sz.2.2.1; omega), fail_0, if_pos k20, fail_0]
    refine hX 30 [36] 13 _ _ _ _ _ _ ?_
    refine Ok_rt (m_isWrong S) ?_
    rw [if_pos z]
    refine And.intro (fun _ => ?_) (fun y => absurd rfl y)
    refine Ok_mono (fun o' Λ' g1 hp => ?_) (m_token O.2.2.2.2 (by rw [O.2.2.2.1.2.1]; omega) S.1.1)
    obtain ⟨e1, e2, F1, P1⟩ := hp
    subst e1
    subst e2
    have S1 : SR T (chA v) g1 := by
      rw [eA]
      exact ⟨⟨P1.2.2.2, RT_pass S.1.2 (fun _ => by omega)⟩, Or.inr (OKR_pass O S.1.2 (by omega) F1 P1)⟩
    have cA : ∀ q, q ≠ 4 → chA v q = v q := fun q hq => chA_cell hq
    have N1 : NmR (chA v) g1 := NmR_cg tb.1 (cA 6 (by decide)) (cA 7 (by decide)) (F1.1 68 (by decide))
    have q27 : g1 50 27 = g 50 27 := F1.2 27 (by decide)
    refine Ok_mono (fun o' Λ' g2 hp => ?_) (m_ownName (M := M) (i := 2) (f := 14) (c := g1 50 27) (b := 4) S1 (by decide) (fun _ => ⟨N1, rfl, by rw [cA 7 (by decide), q27]; exact sz.2.2.1, rfl⟩))
    obtain ⟨e1, e2, F2, S2, N2⟩ := hp
    subst e1
    subst e2
    have S2 : SR T (chB v) g2 := S2
    have F3 : FrS g g2 := FrS_tr (FrS_T (FrT_K F1)) (FrS_N F2)
    refine hX 30 [38] 36 _ _ _ _ _ _ ?_
    show X 38 [_, vI 0, _] _ _ _ _ _
    by_cases zB : chB v 4 10 = 0
    · have cn := cnt_nn (v := chA v) (i := 2) ⟨by decide, by decide⟩ zB
      have d0 := cn 0
      have d1 := cn 1
      have d2 := cn 2
      have d3 := cn 3
      rw [if_pos rfl, cA 7 (by decide)] at d2
      rw [if_neg (by decide), cA 7 (by decide)] at d0 d1 d3
      have ne := nn_eq (v := chA v) (i := 2) zB
      have eI : chI v = (i : Int) := by
        unfold chI
        rw [ne.1, if_pos ne.2.1, rdA_cg (cA 7 (by decide)), r2, ← sz.2.2.1, ei]
      have e14 : chB v 14 = v 14 := (nn_cell (by decide) (by decide) (by decide) (Or.inl (by decide)) (Or.inl (by decide))).trans (cA 14 (by decide))
      have e9 : chB v 9 = v 9 := (nn_cell (by decide) (by decide) (by decide) (Or.inl (by decide)) (Or.inl (by decide))).trans (cA 9 (by decide))
      have e10 : chB v 10 = v 10 := (nn_cell (by decide) (by decide) (by decide) (Or.inl (by decide)) (Or.inl (by decide))).trans (cA 10 (by decide))
      have e8 : ∀ q, rd (chB v 8) 4 q = if q = (i : Int) then 0 else rd (v 8) 4 q := fun q => by
        have a : chB v = passH (addNameH (chA v) 5 2 (tvH (chA v))) := ne.2.2
        rw [a, passH_cell (by decide)]
        unfold addNameH
        rw [if_neg (by decide), if_pos rfl, rd_w, show rdA (chA v) (5 + 2) 4 2 = (i : Int) by rw [show (5 + 2 : Nat) = 7 from rfl, rdA_cg (cA 7 (by decide)), r2, ← sz.2.2.1, ei]]
        unfold addNameN
        rw [wrA_cell (by decide), wrA_cell (by decide), cA 8 (by decide)]
        by_cases w : q = (i : Int)
        · rw [if_pos ⟨by omega, by omega, w⟩, if_pos w]
        · rw [if_neg (fun u => w u.2.2), if_neg w]
      have tC : TabC (chB v) g2 := by
        refine ⟨N2 zB, ⟨?_, ?_, ?_, ?_⟩, ?_, fun c c0 c1 => ?_, ?_⟩
        · rw [F3.2 25 (by decide)]; exact sz.1.trans d0.symm
        · rw [F3.2 26 (by decide)]; exact sz.2.1.trans d1.symm
        · rw [F3.2 27 (by decide), sz.2.2.1]; exact d2.symm
        · rw [F3.2 28 (by decide)]; exact sz.2.2.2.trans d3.symm
        · unfold StR
          rw [e14, F2.1 67 (by decide) (by decide), F1.1 67 (by decide)]
          exact tb.2.2.1
        · rw [F3.2 27 (by decide)] at c1
          have h := tb.2.2.2.1 c c0 (by rw [← sz.2.2.1]; exact c1)
          have h8 : rd (chB v 8) 4 c = rd (v 8) 4 c := by rw [e8, if_neg (by omega)]
          refine ⟨⟨?_, fun r r0 r1 => ?_⟩, ⟨by rw [h8]; exact h.2.1, fun r r0 r1 => ?_, ?_⟩⟩
          · rw [h8, F2.1 62 (by decide) (by decide), F1.1 62 (by decide)]; exact h.1.1
          · rw [h8] at r1
            rw [e9, e10, F2.1 63 (by decide) (by decide), F1.1 63 (by decide), F2.1 64 (by decide) (by decide), F1.1 64 (by decide)]
            exact h.1.2 r r0 r1
          · rw [h8] at r1
            rw [e9, e10]
            exact h.2.2.1 r r0 r1
          · rw [h8, e9, e10]
            exact h.2.2.2
        · have gB : PcR (chA v) g1 := by
            unfold PcR
            rw [cA 7 (by decide), cA 11 (by decide), cA 12 (by decide), F1.1 65 (by decide), F1.1 66 (by decide)]
            exact tb.2.2.2.2
          exact PcR_nn zB ⟨by decide, by decide⟩ (F2.1 65 (by decide) (by decide)) (F2.1 66 (by decide) (by decide)) gB
      have p0 : ChP (chB v) g2 (i : Int) ((0 : Nat) : Int) := ⟨by rw [e8, if_pos rfl]; rfl, fun r r0 r1 => absurd r1 (by omega)⟩
      refine hX 30 [45] 38 _ _ _ _ _ _ ?_
      refine Ok_rt (m_isWrong S2) ?_
      rw [if_pos zB]
      refine And.intro (fun y => absurd rfl y) (fun _ => ?_)
      refine hX 30 [57] 45 _ _ _ _ _ _ ?_
      refine And.intro (fun _ => ?_) (fun y => absurd rfl y)
      refine at57 0 (chB v) g2 _ S2 F3 zB (by omega) ⟨i4, eI⟩ tC p0 (fun g3 S3 F4 K => ?_)
      refine loop 8 1 _ g3 _ (by omega) (by omega) eT S3 F4 (fun y => ?_)
      obtain ⟨k8, t2, p2⟩ := K y
      exact ⟨by omega, ⟨i4, eI⟩, t2, p2⟩
    · have eC : chC v = chB v := by
        unfold chC
        rw [cr_er zB, chL_stop _ _ _ (by rw [SR_k1 S2 zB]; decide)]
      refine hX 30 [68] 38 _ _ _ _ _ _ ?_
      refine Ok_rt (m_isWrong S2) ?_
      rw [if_neg zB]
      refine And.intro (fun _ => ?_) (fun y => absurd y (by decide))
      exact at68 (chB v) g2 0 _ (by rw [eT, eC]) S2 F3 (fun y => absurd y zB)
  · have c : g 50 27 = 4 := c
    have H1 := SR_fails (c := 5) (x := 1) S (by decide) (by decide)
    have z1 : failH v 1 5 4 10 ≠ 0 := fun w => absurd (fail_10 (by decide) w).2 (by decide)
    have k1 : failH v 1 5 4 9 = -1 := H1.1.2.2.2.2.2.2 z1
    have eA : chA v = failH v 1 5 := by
      unfold chA
      rw [r2, if_pos (by have := sz.2.2.1; omega), pt_er z1]
    have eR : chH v = failH v 1 5 := by
      have b : chB v = failH v 1 5 := by unfold chB; rw [eA, nn_er z1]
      have c : chC v = failH v 1 5 := by
        unfold chC
        rw [b, cr_er z1, chL_stop _ _ _ (by omega)]
      rw [eT, c, chT_er z1]
    refine Ok_rt (m_fails S) ?_
    refine hX 30 [] 13 _ _ _ _ _ _ ?_
    refine Ok_rt (m_isWrong H1) ?_
    rw [if_neg z1]
    refine And.intro (fun y => absurd y (by decide)) (fun _ => ?_)
    exact ⟨rfl, rfl, FrL_T flG_fr, ⟨by rw [eR]; exact H1, fun y => absurd y (by rw [eR]; exact z1)⟩, fun y => absurd y (by rw [eR]; exact z1)⟩
end MCHART2
