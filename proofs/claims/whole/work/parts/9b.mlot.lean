/-! ===== the model: a lot; what the lines leave alone ===== -/
theorem me_14 {id : Int} (hid : 0 ≤ id ∧ id ≤ 7) {q : Int} (hq : q < 24 ∨ 72 ≤ q) : ∀ (m : Nat) (k : Int) (g : HP), 0 ≤ k → k + (m : Int) ≤ 6 → rd (meL id m k g 14) 132 q = rd (g 14) 132 q
  | 0, _, _, _, _ => rfl
  | m + 1, k, g, h0, h1 => by
    unfold meL
    rw [me_14 hid hq m (k + 1) _ (by omega) (by omega)]
    split
    · rw [rd_w, if_neg (fun u => by omega), num_cell (by decide)]
    · rw [num_cell (by decide)]
theorem rm_10 {v : HP} (e : rmH v 4 10 = 0) : rmB v 4 10 = 0 := by
  by_cases z : rmB v 4 10 = 0
  · exact z
  · unfold rmH at e
    rw [me_er _ _ _ z, pt_er z] at e
    exact absurd e z
theorem cnt_rm {v : HP} (e : rmH v 4 10 = 0) {j : Int} (hj : j ≠ 1) : rd (rmH v 7) 4 j = rd (v 7) 4 j := by
  have a : rmH v 7 = rmB v 7 := by unfold rmH; rw [pt_cell (by decide), me_cell (by decide) (by decide)]
  have cn := cnt_nn (v := rmA v) (i := 1) ⟨by decide, by decide⟩ (rm_10 e) j
  rw [if_neg hj, rmA_cell (by decide)] at cn
  rw [a]
  exact cn
theorem EaR_rm {v g : HP} (N : NmR v g) (H : EaR v) (e : rmH v 4 10 = 0) : EaR (rmH v) := by
  have zB := rm_10 e
  have ne := nn_eq (v := rmA v) (i := 1) zB
  have c1 := N.1 1 (by decide)
  have c0 := N.1 0 (by decide)
  have p1 : capI ((1 : Nat) : Int) = 8 := rfl
  have p0 : capI ((0 : Nat) : Int) = 6 := rfl
  have eI : rmI v = rd (v 7) 4 ((1 : Nat) : Int) := by
    unfold rmI
    rw [ne.1, if_pos ne.2.1, rdA_cg (rmA_cell (by decide))]
    rfl
  have cn1 := (cnt_nn (v := rmA v) (i := 1) ⟨by decide, by decide⟩ zB 1)
  have cn := cnt_nn (v := rmA v) (i := 1) ⟨by decide, by decide⟩ zB 0
  rw [if_neg (by decide), rmA_cell (by decide)] at cn
  have e0 : rdA (rmB v) 7 4 0 = rd (v 7) 4 ((0 : Nat) : Int) := cn
  have lt : rd (v 7) 4 ((1 : Nat) : Int) < 8 := by
    have nn := ne.1
    have z2 : nnA (rmA v) 1 4 10 = 0 := by rw [nn]; exact ne.2.1
    unfold nnA at z2
    have f := (fail_10 (by decide) z2).2
    have c2 : capI 1 = 8 := rfl
    have e7 : rdA (rmA v) 7 4 1 = rd (v 7) 4 ((1 : Nat) : Int) := rdA_cg (rmA_cell (by decide))
    rw [e7, c2] at f
    by_cases y : 8 ≤ rd (v 7) 4 ((1 : Nat) : Int)
    · rw [if_pos y] at f
      exact absurd f (by decide)
    · omega
  have e3 : rd (rmH v 7) 4 3 = rd (v 7) 4 3 := cnt_rm e (by decide)
  have e14 : ∀ q, 72 ≤ q → rd (rmH v 14) 132 q = rd (v 14) 132 q := fun q hq => by
    have a : rmH v 14 = meL (rmI v) (rdA (rmB v) 7 4 0).toNat 0 (rmB v) 14 := by unfold rmH; rw [pt_cell (by decide)]
    rw [a, me_14 (by omega) (Or.inr hq) _ _ _ (by decide) (by omega)]
    have b : rmB v 14 = v 14 := by
      unfold rmB
      rw [nn_cell (by decide) (by decide) (by decide) (Or.inl (by decide)) (Or.inl (by decide)), rmA_cell (by decide)]
    rw [b]
  intro p k p0 p1 k0 k1 h
  rw [e3] at h
  rw [e14 _ (by omega)]
  exact H p k p0 p1 k0 k1 h
theorem ch_10 {v : HP} (e : chH v 4 10 = 0) : chB v 4 10 = 0 := by
  by_cases z : chB v 4 10 = 0
  · exact z
  · have eC : chC v = chB v ∨ chC v 4 10 ≠ 0 := by
      right
      unfold chC
      rw [cr_er z]
      have st : ∀ (m : Nat) (k : Int) (w : HP), w 4 10 ≠ 0 → chL (chI v) m k w 4 10 ≠ 0 := by
        intro m
        induction m with
        | zero => exact fun k w h => h
        | succ m ih =>
          intro k w h
          unfold chL
          split
          · rw [cr_er h]
            exact ih (k + 1) w h
          · exact h
      exact st 8 1 _ z
    have z2 : chC v 4 10 ≠ 0 := by
      rcases eC with y | y
      · rw [y]; exact z
      · exact y
    have e2 : chH v = chT (chI v) (chC v) := rfl
    rw [e2, chT_er z2] at e
    exact absurd e z2
theorem cnt_ch {v : HP} (e : chH v 4 10 = 0) {j : Int} (hj : j ≠ 2) : rd (chH v 7) 4 j = rd (v 7) 4 j := by
  have a : chH v 7 = chB v 7 := ch_tail (by decide) (by decide) (by decide) (by decide)
  have cn := cnt_nn (v := chA v) (i := 2) ⟨by decide, by decide⟩ (ch_10 e) j
  rw [if_neg hj, chA_cell (by decide)] at cn
  rw [a]
  exact cn
theorem EaR_ch {v : HP} (H : EaR v) (e : chH v 4 10 = 0) : EaR (chH v) := by
  unfold EaR at *
  rw [cnt_ch e (by decide)]
  intro p k p0 p1 k0 k1 h
  rw [ch_cell (by decide) (by decide) (by decide) (by decide) (by decide) (by decide)]
  exact H p k p0 p1 k0 k1 h
theorem pi_10 {v : HP} (e : piH v 4 10 = 0) : piB v 4 10 = 0 := by
  unfold piH at e
  have a := (pt_10 (pt_10 e).1).1
  have st : ∀ (m : Nat) (k : Int) (w : HP), piL (piI v) m k w 4 10 = 0 → w 4 10 = 0 := by
    intro m
    induction m with
    | zero => exact fun k w h => h
    | succ m ih =>
      intro k w h
      unfold piL at h
      split at h
      · exact piS_10 (ih (k + 1) _ h)
      · exact h
  exact ca_10 (st _ _ _ a)
theorem cnt_pi {v : HP} (e : piH v 4 10 = 0) {j : Int} (hj : j ≠ 3) : rd (piH v 7) 4 j = rd (v 7) 4 j := by
  have a : piH v 7 = piB v 7 := pi_tail (by decide) (by decide) (by decide) (by decide)
  have b : piB v 7 = nnP (piA v) 3 7 := by unfold piB; rw [pt_cell (by decide)]
  have cn := cnt_nn (v := piA v) (i := 3) ⟨by decide, by decide⟩ (pt_10 (pi_10 e)).1 j
  rw [if_neg hj, piA_cell (by decide)] at cn
  rw [a, b]
  exact cn
/-- the head tells no ease -/
theorem EaR_hd {v : HP} (z14 : ∀ q, rd (v 14) 132 q = 0) : EaR (rsH (rgH v)) := by
  intro p k p0 p1 k0 k1 _
  rw [rs_cell (by decide) (by decide) (by decide)]
  unfold rgH
  rw [pt_cell (by decide)]
  unfold rgE
  rw [rd_w, if_neg (fun u => by omega), num_cell (by decide)]
  unfold rgD
  rw [pt_cell (by decide)]
  unfold rgC
  rw [rd_w, if_neg (fun u => by omega), num_cell (by decide)]
  unfold rgB
  rw [rd_w, if_neg (fun u => by omega), num_cell (by decide)]
  unfold rgA
  rw [pt_cell (by decide)]
  exact z14 _
section MLOT
variable {M : List CT} {T : Nat} {v g : HP}
theorem m_lotLine (H : LNR T v g) (k14 : v 4 9 = 14) : Ok 206 [vR 50] (LL M) g (fun o Λ' g' => o = .inl none ∧ Λ' = LL M ∧ FrL g g' ∧ LNR T (rlH v) g' ∧ (rlH v 4 10 = 0 → rd (rlH v 14) 132 3 = rd (v 14) 132 3 + 1)) := by
  obtain ⟨S, Tb⟩ := H
  have z : v 4 10 = 0 := SR_kz S k14 (by decide)
  have tb := Tb z
  obtain ⟨st1, st2⟩ := tb.2.2.1
  have l3 := st2.2.2.2.1
  obtain ⟨l, el⟩ : ∃ l : Nat, rd (v 14) 132 3 = (l : Int) := ⟨(rd (v 14) 132 3).toNat, by omega⟩
  have m3 : g 67 3 = (l : Int) := by
    have := st1.1.2.2.2
    rw [el, rd_in (by decide) (by decide)] at this
    exact this
  have r14 : rdA v 14 132 3 = (l : Int) := el
  refine ok_body B_X9_lotLine rfl (fun X hX => ?_)
  refine hX 30 [16] 0 _ _ _ _ _ _ ?_
  refine And.intro ⟨by decide, by decide⟩ ?_
  refine And.intro (fun c => ?_) (fun c => ?_)
  · have c : g 67 3 ≠ 10 := c
    have l10 : l < 10 := by omega
    have eA : rlA v = passH v := by
      unfold rlA ptH
      rw [r14, if_neg (by omega), fail_0, if_pos k14, fail_0]
    refine hX 40 [40] 16 _ _ _ _ _ _ ?_
    refine Ok_rt (m_isWrong S) ?_
    rw [if_pos z]
    refine And.intro (fun _ => ?_) (fun y => absurd rfl y)
    refine Ok_mono (fun o' Λ' g1 hp => ?_) (m_tokenP S z (by omega))
    obtain ⟨e1, e2, F1, S1⟩ := hp
    subst e1
    subst e2
    rw [← eA] at S1
    have n3 : g1 67 3 = (l : Int) := by rw [F1.1 67 (by decide)]; exact m3
    refine And.intro ⟨by decide, by decide⟩ ?_
    have n3' : g1 67 (3 : Int).toNat = (l : Int) := n3
    rw [n3']
    refine And.intro (show inR (2 * (l : Int)) from ⟨by omega, by omega⟩) ?_
    refine And.intro (show inR (112 + 2 * (l : Int)) from ⟨by omega, by omega⟩) ?_
    show X 40 [_, vI (112 + 2 * (l : Int))] _ _ _ _ _
    refine hX 60 [] 40 _ _ _ _ _ _ ?_
    refine Ok_mono (fun o' Λ' g2 hp => ?_) (m_figure (a := 0) (b := 3) S1 ⟨by decide, by decide⟩)
    obtain ⟨e1, F2, S2, r0, e3, rb0, hr0⟩ := hp
    subst e1
    rw [e3]
    refine And.intro (show 0 ≤ 112 + 2 * (l : Int) ∧ 112 + 2 * (l : Int) < 132 from ⟨by omega, by omega⟩) ?_
    refine And.intro (show inR (112 + 2 * (l : Int) + 1) from ⟨by omega, by omega⟩) ?_
    rw [show (112 + 2 * (l : Int)).toNat = 112 + 2 * l by omega]
    refine Ok_mono (fun o' Λ' g3 hp => ?_) (m_figure (a := 1) (b := 9999) (SR_up (c := 67) (p := 112 + 2 * l) (x := r0) S2 ⟨by decide, by decide⟩) ⟨by decide, by decide⟩)
    obtain ⟨e1, F3, S3, r1, e3, rb1, hr1⟩ := hp
    subst e1
    rw [e3]
    refine And.intro (show 0 ≤ 112 + 2 * (l : Int) + 1 ∧ 112 + 2 * (l : Int) + 1 < 132 from ⟨by omega, by omega⟩) ?_
    rw [show (112 + 2 * (l : Int) + 1).toNat = 112 + 2 * l + 1 by omega]
    have S3 : SR T (rlB v) g3 := S3
    have S4 : SR T (rlC v) (up g3 67 (112 + 2 * l + 1) r1) := by
      have q : ∀ c, c ≠ 14 → rlC v c = rlB v c := fun c hc => by
        unfold rlC
        split
        · rw [wrA_cell hc, wrA_cell hc, wrA_cell hc]
        · rfl
      exact SR_cls (SR_up S3 ⟨by decide, by decide⟩) (q 2 (by decide)) (q 3 (by decide)) (q 4 (by decide)) (fun c h0 h1 => q c (by omega))
    refine Ok_mono (fun o' Λ' g5 hp => ?_) (m_semicolon S4)
    obtain ⟨e1, e2, F5, S5⟩ := hp
    subst e1
    subst e2
    have n5 : g5 67 3 = (l : Int) := by
      rw [F5.1 67 (by decide), up_ne (by omega), F3.1 67 (by decide), up_ne (by omega), F2.1 67 (by decide)]
      exact n3
    refine And.intro ⟨by decide, by decide⟩ ?_
    refine And.intro (show inR (g5 67 3 + 1) from by rw [n5]; exact ⟨by omega, by omega⟩) ?_
    refine And.intro ⟨by decide, by decide⟩ ?_
    have fin : FrL g (up g5 67 3 (g5 67 3 + 1)) ∧ LNR T (rlH v) (up g5 67 3 (g5 67 3 + 1)) ∧ (rlH v 4 10 = 0 → rd (rlH v 14) 132 3 = rd (v 14) 132 3 + 1) := by
      have S5 : SR T (rlH v) g5 := S5
      have fr : FrL g (up g5 67 3 (g5 67 3 + 1)) := FrL_tr (FrL_tr (FrL_tr (FrL_tr (FrL_T (FrT_tr F1 F2)) (FrL_up ⟨by decide, by decide⟩)) (FrL_T F3)) (FrL_up ⟨by decide, by decide⟩)) (FrL_tr (FrL_T F5) (FrL_up ⟨by decide, by decide⟩))
      have ok : rlH v 4 10 = 0 → rlB v 4 10 = 0 := fun y => by
        have y2 := (pt_10 y).1
        unfold rlC at y2
        split at y2
        · rw [wrA_cell (by decide), wrA_cell (by decide), wrA_cell (by decide)] at y2
          exact y2
        · exact y2
      have e14 : rlH v 4 10 = 0 → rlH v 14 = upf (upf (upf (v 14) (4 + l) r0) (14 + l) r1) 3 ((l : Int) + 1) := fun y => by
        have y2 := ok y
        have a : rlH v 14 = rlC v 14 := by unfold rlH; rw [pt_cell (by decide)]
        have h1 : r1 = l2iI (tvH (numH (rlA v) 0 3)) := (hr1 y2).1
        have h0 : r0 = l2iI (tvH (rlA v)) := (hr0 (num_10 y2)).1
        have b : rlB v 14 = v 14 := by
          unfold rlB
          rw [num_cell (by decide), num_cell (by decide), eA, passH_cell (by decide)]
        rw [a]
        unfold rlC
        rw [if_pos y2, r14, ← h0, ← h1, wr_upf (by decide) (by decide), wr_upf (by omega) (by omega), wr_upf (by omega) (by omega), b, show (4 + (l : Int)).toNat = 4 + l by omega, show (14 + (l : Int)).toNat = 14 + l by omega]
        rfl
      refine ⟨fr, ⟨SR_up S5 ⟨by decide, by decide⟩, fun y => ?_⟩, fun y => ?_⟩
      · have y2 := ok y
        have h1 := (hr1 y2).2
        have h0 := (hr0 (num_10 y2)).2
        have e67 : up g5 67 3 (g5 67 3 + 1) 67 = upf (upf (upf (g 67) (112 + 2 * l) r0) (112 + 2 * l + 1) r1) 3 ((l : Int) + 1) := by
          rw [up_upf, n5, F5.1 67 (by decide), up_upf, F3.1 67 (by decide), up_upf, F2.1 67 (by decide), F1.1 67 (by decide)]
        have cc : ∀ c, 6 ≤ c → c ≤ 12 → rlH v c = v c := fun c h0 h1 => rl_cell (by omega) (by omega)
        have gc : ∀ c, c ≠ 50 → c ≠ 67 → up g5 67 3 (g5 67 3 + 1) c = g c := fun c h0 h1 => by rw [up_cell h1, F5.1 c h0, up_cell h1, F3.1 c h0, up_cell h1, F2.1 c h0, F1.1 c h0]
        have gq : ∀ q, 24 < q → up g5 67 3 (g5 67 3 + 1) 50 q = g 50 q := fun q hq => by rw [up_cell (by decide), F5.2 q (Or.inr hq), up_cell (by decide), F3.2 q (Or.inr hq), up_cell (by decide), F2.2 q (Or.inr hq), F1.2 q (Or.inr hq)]
        obtain ⟨a, b, -, d, f⟩ := tb
        refine ⟨NmR_cg a (cc 6 (by decide) (by decide)) (cc 7 (by decide) (by decide)) (gc 68 (by decide) (by decide)), ?_, ?_, ?_, ?_⟩
        · unfold SzR
          rw [cc 7 (by decide) (by decide), gq 25 (by decide), gq 26 (by decide), gq 27 (by decide), gq 28 (by decide)]
          exact b
        · unfold StR
          rw [e14 y, e67]
          exact ⟨StC_add st1 el l10, StOK_add st2 el l10 h0 ⟨by omega, h1.2⟩⟩
        · unfold ChR
          rw [cc 7 (by decide) (by decide), cc 8 (by decide) (by decide), cc 9 (by decide) (by decide), cc 10 (by decide) (by decide), gc 62 (by decide) (by decide), gc 63 (by decide) (by decide), gc 64 (by decide) (by decide)]
          exact d
        · unfold PcR
          rw [cc 7 (by decide) (by decide), cc 11 (by decide) (by decide), cc 12 (by decide) (by decide), gc 65 (by decide) (by decide), gc 66 (by decide) (by decide)]
          exact f
      · rw [e14 y, rd_upf (by decide), if_pos (by decide), el]
    exact ⟨rfl, rfl, fin⟩
  · have c : g 67 3 = 10 := c
    have H1 := SR_fails (c := 5) (x := 1) S (by decide) (by decide)
    have z1 : failH v 1 5 4 10 ≠ 0 := fun w => absurd (fail_10 (by decide) w).2 (by decide)
    have eR : rlH v = failH v 1 5 := by
      have a : rlA v = failH v 1 5 := by
        unfold rlA
        rw [r14, if_pos (by omega), pt_er z1]
      have b : rlB v = failH v 1 5 := by unfold rlB; rw [a, num_er z1, num_er z1]
      unfold rlH rlC
      rw [b, if_neg z1, pt_er z1]
    refine Ok_rt (m_fails S) ?_
    refine hX 30 [] 16 _ _ _ _ _ _ ?_
    refine Ok_rt (m_isWrong H1) ?_
    rw [if_neg z1]
    refine And.intro (fun y => absurd y (by decide)) (fun _ => ?_)
    exact ⟨rfl, rfl, FrL_T flG_fr, ⟨by rw [eR]; exact H1, fun y => absurd y (by rw [eR]; exact z1)⟩, fun y => absurd y (by rw [eR]; exact z1)⟩
end MLOT
