/-! ===== Reader: readText ===== -/
/-- what holds behind each line of a text -/
def RC (T : Nat) (b l : Int) (h : HP) : Prop := RT T h ∧ rwB 80 h ∧ ptB 50 h ∧ cntB b h ∧ (0 ≤ L3 h ∧ L3 h ≤ l)
theorem RC_7 {T : Nat} {b l : Int} {h : HP} (H : RC T b l h) (hT : T ≤ 1500) : -1 ≤ h 4 7 ∧ h 4 7 ≤ 1500 := ⟨H.1.1.1.1, by have := H.1.1.1.2; omega⟩
theorem RC_rg {T : Nat} {b l : Int} {h : HP} (H : RC T b l h) : RC T b l (rgH h) :=
  ⟨RT_rg H.1, rwB_cg H.2.1 (rg_cell (by decide) (by decide)), ptB_cg H.2.2.1 (rg_cell (by decide) (by decide)), cntB_cg H.2.2.2.1 (rg_cell (by decide) (by decide)), by rw [L3_rg]; exact H.2.2.2.2⟩
theorem RC_rs {T : Nat} {b l : Int} {h : HP} (H : RC T b l h) : RC T (b + 7) l (rsH h) :=
  ⟨RT_rs H.1, rwB_cg H.2.1 (rs_cell (by decide) (by decide) (by decide)), ptB_cg H.2.2.1 (rs_cell (by decide) (by decide) (by decide)), cntB_rs H.2.2.2.1, by rw [L3_cg (rs_cell (by decide) (by decide) (by decide))]; exact H.2.2.2.2⟩
theorem RC_rm {T : Nat} {b l : Int} {h : HP} (H : RC T b l h) : RC T (b + 1) l (rmH h) :=
  ⟨RT_rm H.1, rwB_cg H.2.1 (rm_cell (by decide) (by decide) (by decide) (by decide)), ptB_cg H.2.2.1 (rm_cell (by decide) (by decide) (by decide) (by decide)), cntB_rm H.2.2.2.1, by rw [L3_rm H.2.2.2.1]; exact H.2.2.2.2⟩
theorem RC_ch {T : Nat} {b l : Int} {h : HP} (H : RC T b l h) : RC T (b + 1) l (chH h) :=
  ⟨RT_ch H.1, rwB_ch H.2.1, ptB_cg H.2.2.1 (ch_cell (by decide) (by decide) (by decide) (by decide) (by decide) (by decide)), cntB_ch H.2.2.2.1, by rw [L3_cg (ch_cell (by decide) (by decide) (by decide) (by decide) (by decide) (by decide))]; exact H.2.2.2.2⟩
theorem RC_pi {T : Nat} {b l : Int} {h : HP} (hb : b ≤ 900) (H : RC T b l h) : RC T (b + 1) l (piH h) :=
  ⟨RT_pi H.1, rwB_cg H.2.1 (pi_cell (by decide) (by decide) (by decide) (by decide) (by decide) (by decide)), ptB_pi H.2.2.1, cntB_pi H.2.2.2.1, by rw [L3_pi (by have := H.2.2.2.1 3; omega) H.2.2.1]; exact H.2.2.2.2⟩
theorem RC_rl {T : Nat} {b l : Int} {h : HP} (H : RC T b l h) : RC T b (l + 1) (rlH h) :=
  ⟨RT_rl H.1, rwB_cg H.2.1 (rl_cell (by decide) (by decide)), ptB_cg H.2.2.1 (rl_cell (by decide) (by decide)), cntB_cg H.2.2.2.1 (rl_cell (by decide) (by decide)), by
    have a := H.2.2.2.2
    rcases L3_rl (h := h) with y | y <;> rw [y] <;> omega⟩
/-- lines of a kind, so many at most -/
def lpR (F : HP → HP) (k : Int) : Nat → HP → HP
  | 0, g => g
  | m + 1, g => if g 4 9 = k then lpR F k m (F g) else g
def rtI (h : HP) : HP := flF 14 132 0 132 0 (flF 7 4 0 4 0 h)
def rtS (h : HP) : HP := splT (rtI h 2 1) (rtI h 2 1).toNat 0 0 (rtI h)
def rtZ (h : HP) : HP := up (up (up (rtS h) 4 10 0) 4 11 (-1)) 4 7 (-1)
def rt0 (h : HP) : HP := passH (rtZ h)
def rt1 (h : HP) : HP := rsH (rgH (rt0 h))
def rt2 (h : HP) : HP := lpR rmH 8 9 (rt1 h)
def rt3 (h : HP) : HP := lpR chH 20 5 (rt2 h)
def rt4 (h : HP) : HP := lpR piH 9 7 (rt3 h)
def rt5 (h : HP) : HP := lpR rlH 14 11 (rt4 h)
def rtE (h : HP) : HP := failH (rt5 h) (if rt5 h 4 9 = 1 then 0 else 1) 1
theorem rtZ_cell {h : HP} {q : Nat} (n : q ≠ 4) : rtZ h q = rtS h q := by unfold rtZ; rw [up_cell n, up_cell n, up_cell n]
theorem rtI_cell {h : HP} {q : Nat} (n : q ≠ 7) (m : q ≠ 14) : rtI h q = h q := by unfold rtI; rw [flF_cell m, flF_cell n]
/-- what a text leaves when its words are parted and the first one is looked at -/
theorem RC_rt0 {h : HP} (h2 : 0 ≤ h 2 1 ∧ h 2 1 ≤ 1500) (H : TKI h) (hr : rwB 80 h) (hp : ptB 50 h) : ∃ T : Nat, T ≤ 1500 ∧ RC T 0 0 (rt0 h) := by
  have e2 : rtI h 2 = h 2 := rtI_cell (by decide) (by decide)
  have K : TKI (rtI h) := TKI_cg H (rtI_cell (by decide) (by decide)) (rtI_cell (by decide) (by decide)) (rtI_cell (by decide) (by decide))
  obtain ⟨⟨T, T1, T2⟩, S2, S3⟩ := splT_sp (tl := h 2 1) h2 (h 2 1).toNat 0 0 (rtI h) (by rw [e2]) (by omega) (by omega) (by omega) K
  have eS : rtS h = splT (h 2 1) (h 2 1).toNat 0 0 (rtI h) := by unfold rtS; rw [e2]
  rw [← eS] at T2 S2 S3
  obtain ⟨e16, e17, e18⟩ := S2
  have z : rtZ h 4 10 = 0 := by unfold rtZ; rw [up_ne (by decide), up_ne (by decide), up_same]
  have z7 : rtZ h 4 7 = -1 := by unfold rtZ; rw [up_same]
  have e9 : passH (rtZ h) 4 9 = rd (rtZ h 15) 1501 (rtZ h 4 7 + 1) := by
    unfold passH
    rw [if_pos z, up_same]
    rfl
  have cz : ∀ q, q ≠ 4 → (q < 15 ∨ 18 < q) → rt0 h q = rtI h q := fun q n hq => by
    unfold rt0
    rw [passH_cell n, rtZ_cell n, S3 q hq]
  refine ⟨T, by omega, ⟨?_, rwB_cg hr ((cz 8 (by decide) (by decide)).trans (rtI_cell (by decide) (by decide))), ptB_cg hp ((cz 11 (by decide) (by decide)).trans (rtI_cell (by decide) (by decide))), fun q => ?_, ?_⟩⟩
  · unfold rt0 RT tvOK
    rw [e9, passH_7, if_pos z, passH_8, if_pos z, passH_cell (q := 15) (by decide), passH_cell (q := 16) (by decide), passH_cell (q := 17) (by decide), passH_cell (q := 18) (by decide), z7, rtZ_cell (q := 15) (by decide), rtZ_cell (q := 16) (by decide), rtZ_cell (q := 17) (by decide), rtZ_cell (q := 18) (by decide)]
    exact ⟨⟨⟨by omega, by omega⟩, T2, fun _ => rfl⟩, e16 _, e16, e17, e18, fun y => absurd ((passH_10 (by decide) (by decide) (by decide)).trans z) y⟩
  · have e : rdA (rt0 h) 7 4 q = 0 := by
      rw [rdA_cg (cz 7 (by decide) (by decide))]
      unfold rtI
      rw [rdA_cg (flF_cell (by decide) _ _ _), rdA_flF _ _ _ _ (by decide)]
      split
      · rfl
      · exact rdA_out (by omega)
    rw [e]
    exact ⟨by decide, by decide⟩
  · have e : L3 (rt0 h) = 0 := by
      rw [L3_cg (cz 14 (by decide) (by decide))]
      show rdA (rtI h) 14 132 3 = 0
      unfold rtI
      rw [rdA_flF _ _ _ _ (by decide), if_pos ⟨by decide, by decide, by decide⟩]
    rw [e]
    exact ⟨by decide, by decide⟩
section READER13
variable {N : List CT} {h : HP} {T : Nat}
theorem readText_ok (h2 : 0 ≤ h 2 1 ∧ h 2 1 ≤ 1500) (H : TKI h) (hr : rwB 80 h) (hp : ptB 50 h) : Ok 65 [vR 4] (LC N) h (rt (some (vI (if rtE h 4 10 = 0 then 1 else 0))) (LC N) (rtE h)) := by
  obtain ⟨T, hT, G0⟩ := RC_rt0 h2 H hr hp
  have G1 := RC_rg G0
  have G2 : RC T 7 0 (rt1 h) := RC_rs G1
  refine ok_body B_X4_readText rfl (fun X hX => ?_)
  have at152 : ∀ r, X 152 [vR 4, vI r] [] (LC N) (rt5 h) 0 0 := by
    intro r
    have fin : X 170 [vR 4, vI r] [] (LC N) (rtE h) 0 0 := by
      refine hX 30 [] 170 _ _ _ _ _ _ ?_
      refine And.intro (fun c => ?_) (fun c => ?_)
      · have c : rtE h 4 10 ≠ 0 := c
        exact And.intro ⟨by decide, by decide⟩ (rt_mk (by rw [if_neg c]) rfl)
      · have c : rtE h 4 10 = 0 := c
        exact And.intro ⟨by decide, by decide⟩ (rt_mk (by rw [if_pos c]) rfl)
    have mid : ∀ y, y = (if rt5 h 4 9 = 1 then (0 : Int) else 1) → X 166 [vR 4, vI r] [vI y, vR 4] (LC N) (rt5 h) 0 0 := by
      intro y hy
      refine hX 30 [170] 166 _ _ _ _ _ _ ?_
      refine Ok_rt failIf_ok ?_
      rw [hy]
      exact fin
    refine hX 30 [166] 152 _ _ _ _ _ _ ?_
    refine And.intro (fun c => ?_) (fun c => ?_)
    · have c : rt5 h 4 9 = 1 := c
      exact mid _ (by rw [if_pos c])
    · have c : rt5 h 4 9 ≠ 1 := c
      exact mid _ (by rw [if_neg c])
  have loopL : ∀ (m : Nat) (r : Int) (g : HP) (b : Int), r + (m : Int) = 11 → 0 ≤ r → RC T b r g → rt5 h = lpR rlH 14 m g → X 127 [vR 4, vI r] [] (LC N) g 0 0 := by
    intro m
    induction m with
    | zero =>
      intro r g b hr0 r0 G hv
      refine hX 30 [152] 127 _ _ _ _ _ _ ?_
      refine And.intro (fun _ => ?_) (fun c => absurd c (by omega))
      have e : g = rt5 h := hv.symm
      rw [e]
      exact at152 r
    | succ m ih =>
      intro r g b hr0 r0 G hv
      have st : lpR rlH 14 (m + 1) g = if g 4 9 = 14 then lpR rlH 14 m (rlH g) else g := rfl
      rw [st] at hv
      have b7 := RC_7 G hT
      refine hX 30 [127, 152] 127 _ _ _ _ _ _ ?_
      refine And.intro (fun c => absurd c (by omega)) (fun _ => ?_)
      refine And.intro (fun c => ?_) (fun c => ?_)
      · have c : g 4 9 ≠ 14 := c
        rw [if_neg c] at hv
        rw [← hv]
        exact at152 r
      · have c : g 4 9 = 14 := c
        rw [if_pos c] at hv
        have l3 : 0 ≤ rdA g 14 132 3 ∧ rdA g 14 132 3 ≤ r := G.2.2.2.2
        refine Ok_rt (readLot_ok ⟨by omega, by omega⟩ ⟨by omega, by omega⟩) ?_
        refine And.intro ⟨by omega, by omega⟩ ?_
        exact ih (r + 1) (rlH g) b (by omega) (by omega) (RC_rl G) hv
  have at125 : ∀ (r b : Int), RC T b 0 (rt4 h) → X 125 [vR 4, vI r] [] (LC N) (rt4 h) 0 0 := by
    intro r b G
    refine hX 30 [127] 125 _ _ _ _ _ _ ?_
    show X 127 [_, vI 0] _ _ _ _ _
    exact loopL 11 0 _ b (by omega) (by omega) G rfl
  have loopP : ∀ (m : Nat) (r : Int) (g : HP), r + (m : Int) = 7 → 0 ≤ r → RC T (21 + r) 0 g → rt4 h = lpR piH 9 m g → X 100 [vR 4, vI r] [] (LC N) g 0 0 := by
    intro m
    induction m with
    | zero =>
      intro r g hr0 r0 G hv
      refine hX 30 [125] 100 _ _ _ _ _ _ ?_
      refine And.intro (fun _ => ?_) (fun c => absurd c (by omega))
      have e : g = rt4 h := hv.symm
      rw [e] at G ⊢
      exact at125 r _ G
    | succ m ih =>
      intro r g hr0 r0 G hv
      have st : lpR piH 9 (m + 1) g = if g 4 9 = 9 then lpR piH 9 m (piH g) else g := rfl
      rw [st] at hv
      refine hX 30 [100, 125] 100 _ _ _ _ _ _ ?_
      refine And.intro (fun c => absurd c (by omega)) (fun _ => ?_)
      refine And.intro (fun c => ?_) (fun c => ?_)
      · have c : g 4 9 ≠ 9 := c
        rw [if_neg c] at hv
        rw [← hv] at G ⊢
        exact at125 r _ G
      · have c : g 4 9 = 9 := c
        rw [if_pos c] at hv
        refine Ok_rt (readPiece_ok G.1 hT (fun q => by have := G.2.2.2.1 q; omega) G.2.2.1) ?_
        refine And.intro ⟨by omega, by omega⟩ ?_
        have G' := RC_pi (by omega) G
        rw [show 21 + r + 1 = 21 + (r + 1) by omega] at G'
        exact ih (r + 1) (piH g) (by omega) (by omega) G' hv
  have at98 : ∀ (r : Int), RC T 21 0 (rt3 h) → X 98 [vR 4, vI r] [] (LC N) (rt3 h) 0 0 := by
    intro r G
    refine hX 30 [100] 98 _ _ _ _ _ _ ?_
    show X 100 [_, vI 0] _ _ _ _ _
    exact loopP 7 0 _ (by omega) (by omega) G rfl
  have loopC : ∀ (m : Nat) (r : Int) (g : HP), r + (m : Int) = 5 → 0 ≤ r → RC T (16 + r) 0 g → rt3 h = lpR chH 20 m g → X 74 [vR 4, vI r] [] (LC N) g 0 0 := by
    have le : ∀ (b : Int) (g : HP), b ≤ 21 → RC T b 0 g → RC T 21 0 g := fun b g hb G => ⟨G.1, G.2.1, G.2.2.1, cntB_le G.2.2.2.1 hb, G.2.2.2.2⟩
    intro m
    induction m with
    | zero =>
      intro r g hr0 r0 G hv
      refine hX 30 [98] 74 _ _ _ _ _ _ ?_
      refine And.intro (fun _ => ?_) (fun c => absurd c (by omega))
      have e : g = rt3 h := hv.symm
      rw [e] at G ⊢
      exact at98 r (le _ _ (by omega) G)
    | succ m ih =>
      intro r g hr0 r0 G hv
      have st : lpR chH 20 (m + 1) g = if g 4 9 = 20 then lpR chH 20 m (chH g) else g := rfl
      rw [st] at hv
      refine hX 30 [74, 98] 74 _ _ _ _ _ _ ?_
      refine And.intro (fun c => absurd c (by omega)) (fun _ => ?_)
      refine And.intro (fun c => ?_) (fun c => ?_)
      · have c : g 4 9 ≠ 20 := c
        rw [if_neg c] at hv
        rw [← hv] at G ⊢
        exact at98 r (le _ _ (by omega) G)
      · have c : g 4 9 = 20 := c
        rw [if_pos c] at hv
        refine Ok_rt (readChart_ok G.1 hT (by have := G.2.2.2.1 2; omega) G.2.1) ?_
        refine And.intro ⟨by omega, by omega⟩ ?_
        have G' := RC_ch G
        rw [show 16 + r + 1 = 16 + (r + 1) by omega] at G'
        exact ih (r + 1) (chH g) (by omega) (by omega) G' hv
  have at72 : ∀ (r : Int), RC T 16 0 (rt2 h) → X 72 [vR 4, vI r] [] (LC N) (rt2 h) 0 0 := by
    intro r G
    refine hX 30 [74] 72 _ _ _ _ _ _ ?_
    show X 74 [_, vI 0] _ _ _ _ _
    exact loopC 5 0 _ (by omega) (by omega) G rfl
  have loopM : ∀ (m : Nat) (r : Int) (g : HP), r + (m : Int) = 9 → 0 ≤ r → RC T (7 + r) 0 g → rt2 h = lpR rmH 8 m g → X 47 [vR 4, vI r] [] (LC N) g 0 0 := by
    have le : ∀ (b : Int) (g : HP), b ≤ 16 → RC T b 0 g → RC T 16 0 g := fun b g hb G => ⟨G.1, G.2.1, G.2.2.1, cntB_le G.2.2.2.1 hb, G.2.2.2.2⟩
    intro m
    induction m with
    | zero =>
      intro r g hr0 r0 G hv
      refine hX 30 [72] 47 _ _ _ _ _ _ ?_
      refine And.intro (fun _ => ?_) (fun c => absurd c (by omega))
      have e : g = rt2 h := hv.symm
      rw [e] at G ⊢
      exact at72 r (le _ _ (by omega) G)
    | succ m ih =>
      intro r g hr0 r0 G hv
      have st : lpR rmH 8 (m + 1) g = if g 4 9 = 8 then lpR rmH 8 m (rmH g) else g := rfl
      rw [st] at hv
      have b7 := RC_7 G hT
      refine hX 30 [47, 72] 47 _ _ _ _ _ _ ?_
      refine And.intro (fun c => absurd c (by omega)) (fun _ => ?_)
      refine And.intro (fun c => ?_) (fun c => ?_)
      · have c : g 4 9 ≠ 8 := c
        rw [if_neg c] at hv
        rw [← hv] at G ⊢
        exact at72 r (le _ _ (by omega) G)
      · have c : g 4 9 = 8 := c
        rw [if_pos c] at hv
        refine Ok_rt (readMeasure_ok ⟨by omega, by omega⟩ (by have := G.2.2.2.1 0; omega) (by have := G.2.2.2.1 1; omega)) ?_
        refine And.intro ⟨by omega, by omega⟩ ?_
        have G' := RC_rm G
        rw [show 7 + r + 1 = 7 + (r + 1) by omega] at G'
        exact ih (r + 1) (rmH g) (by omega) (by omega) G' hv
  have e2 : rtI h 2 = h 2 := rtI_cell (by decide) (by decide)
  have z7 : rtZ h 4 7 = -1 := by unfold rtZ; rw [up_same]
  have b0 := RC_7 G0 hT
  have b1 := RC_7 G1 hT
  refine hX 60 [18] 0 _ _ _ _ _ _ ?_
  refine Ok_rt (empty_ok (p := 5) (Or.inl rfl)) ?_
  refine Ok_rt stEmpty_ok ?_
  refine Ok_rt (splitTokens_ok (h := rtI h) (by rw [e2]; exact h2.1) (by rw [e2]; exact h2.2)) ?_
  show X 18 [_, _] _ _ (rtS h) _ _
  refine hX 60 [33] 18 _ _ _ _ _ _ ?_
  show X 33 [_, _] _ _ (rtZ h) _ _
  refine hX 60 [45] 33 _ _ _ _ _ _ ?_
  refine Ok_rt (pass_ok (by rw [z7]; exact ⟨by decide, by decide⟩)) ?_
  refine Ok_rt (readGauge_ok (h := rt0 h) ⟨by omega, by omega⟩) ?_
  refine Ok_rt (readSizes_ok (h := rgH (rt0 h)) ⟨by omega, by omega⟩ (by have := G1.2.2.2.1 0; omega)) ?_
  show X 45 [_, _] _ _ (rt1 h) _ _
  refine hX 60 [47] 45 _ _ _ _ _ _ ?_
  show X 47 [_, vI 0] _ _ _ _ _
  exact loopM 9 0 _ (by omega) (by omega) G2 rfl
end READER13
