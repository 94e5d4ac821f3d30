/-! ===== the model: load ===== -/
theorem RC_lp {T : Nat} {F : HP → HP} {k l : Int} (hF : ∀ (b : Int) (g : HP), b ≤ 900 → RC T b l g → RC T (b + 1) l (F g)) : ∀ (m : Nat) (b : Int) (g : HP), b + (m : Int) ≤ 900 → RC T b l g → RC T (b + (m : Int)) l (lpR F k m g)
  | 0, b, g, _, H => by
    rw [show b + ((0 : Nat) : Int) = b by omega]
    exact H
  | m + 1, b, g, hb, H => by
    unfold lpR
    split
    · have := RC_lp (k := k) hF m (b + 1) (F g) (by omega) (hF b g (by omega) H)
      rw [show b + 1 + (m : Int) = b + ((m + 1 : Nat) : Int) by omega] at this
      exact this
    · exact ⟨H.1, H.2.1, H.2.2.1, cntB_le H.2.2.2.1 (by omega), H.2.2.2.2⟩
theorem RC_lpL {T : Nat} {b : Int} : ∀ (m : Nat) (l : Int) (g : HP), RC T b l g → RC T b (l + (m : Int)) (lpR rlH 14 m g)
  | 0, l, g, H => by
    rw [show l + ((0 : Nat) : Int) = l by omega]
    exact H
  | m + 1, l, g, H => by
    unfold lpR
    split
    · have := RC_lpL m (l + 1) (rlH g) (RC_rl H)
      rw [show l + 1 + (m : Int) = l + ((m + 1 : Nat) : Int) by omega] at this
      exact this
    · exact ⟨H.1, H.2.1, H.2.2.1, H.2.2.2.1, by have := H.2.2.2.2; omega⟩
theorem RC_rt5 {T : Nat} {h : HP} (H : RC T 0 0 (rt0 h)) : RC T 28 11 (rt5 h) := by
  have A : RC T 7 0 (rt1 h) := RC_rs (RC_rg H)
  have B : RC T (7 + ((9 : Nat) : Int)) 0 (rt2 h) := RC_lp (fun b g _ G => RC_rm G) 9 7 _ (by decide) A
  have C : RC T (7 + ((9 : Nat) : Int) + ((5 : Nat) : Int)) 0 (rt3 h) := RC_lp (fun b g _ G => RC_ch G) 5 _ _ (by decide) B
  have D : RC T (7 + ((9 : Nat) : Int) + ((5 : Nat) : Int) + ((7 : Nat) : Int)) 0 (rt4 h) := RC_lp (fun b g hb G => RC_pi hb G) 7 _ _ (by decide) C
  exact RC_lpL 11 0 _ D
/-- what a load leaves for the next one -/
theorem rtE_keep {h : HP} (h2 : 0 ≤ h 2 1 ∧ h 2 1 ≤ 1500) (H : TKI h) (hr : rwB 80 h) (hp : ptB 50 h) : TKI (rtE h) ∧ rwB 80 (rtE h) ∧ ptB 50 (rtE h) := by
  obtain ⟨T, -, G⟩ := RC_rt0 h2 H hr hp
  have R := RC_rt5 G
  have c : ∀ q, q ≠ 4 → rtE h q = rt5 h q := fun q hq => by unfold rtE; rw [failH_cell hq]
  exact ⟨TKI_cg ⟨R.1.2.2.1, R.1.2.2.2.1, R.1.2.2.2.2.1⟩ (c 16 (by decide)) (c 17 (by decide)) (c 18 (by decide)), rwB_cg R.2.1 (c 8 (by decide)), ptB_cg R.2.2.1 (c 11 (by decide))⟩
/-- the beginning of the reading -/
theorem rt0_sim {h : HP} (h2 : 0 ≤ h 2 1 ∧ h 2 1 ≤ 1500) (H : TKI h) (hr : rwB 80 h) (hp : ptB 50 h) : ∃ T : Nat, RC T 0 0 (rt0 h) ∧ TKS T (rt0 h) ∧ (rt0 h 4 10 = 0 ∧ rt0 h 4 7 = 0 ∧ rt0 h 4 11 = -1 ∧ rt0 h 4 8 = rd (rt0 h 16) 1501 0) ∧
    (∀ c, c ≠ 4 → c ≠ 7 → c ≠ 14 → (c < 15 ∨ 18 < c) → rt0 h c = h c) ∧ (∀ q, rd (rt0 h 7) 4 q = 0) ∧ ∀ q, rd (rt0 h 14) 132 q = 0 := by
  obtain ⟨T0, -, G⟩ := RC_rt0 h2 H hr hp
  have e2 : rtI h 2 = h 2 := rtI_cell (by decide) (by decide)
  have e3 : rtI h 3 = h 3 := rtI_cell (by decide) (by decide)
  obtain ⟨T, -, tT, F⟩ := splT_tk (tl := h 2 1) h2 (h 2 1).toNat 0 0 (rtI h) (by rw [e2]) (by decide) h2.1 (by omega) (by omega)
  have eS : rtS h = splT (h 2 1) (h 2 1).toNat ((0 : Nat) : Int) 0 (rtI h) := by unfold rtS; rw [e2]; rfl
  rw [← eS] at F
  obtain ⟨-, f2, f3, f4, f5, f6, f7⟩ := F
  have S3 : ∀ c, (c < 15 ∨ 18 < c) → rtS h c = rtI h c := by
    have K : TKI (rtI h) := TKI_cg H (rtI_cell (by decide) (by decide)) (rtI_cell (by decide) (by decide)) (rtI_cell (by decide) (by decide))
    have := (splT_sp (tl := h 2 1) h2 (h 2 1).toNat 0 0 (rtI h) (by rw [e2]) (by omega) (by omega) (by omega) K).2.2
    have eS2 : rtS h = splT (h 2 1) (h 2 1).toNat 0 0 (rtI h) := by unfold rtS; rw [e2]
    rw [← eS2] at this
    exact this
  have z : rtZ h 4 10 = 0 := by unfold rtZ; rw [up_ne (by decide), up_ne (by decide), up_same]
  have z7 : rtZ h 4 7 = -1 := by unfold rtZ; rw [up_same]
  have z11 : rtZ h 4 11 = -1 := by unfold rtZ; rw [up_ne (by decide), up_same]
  have ck : ∀ c, c ≠ 4 → rt0 h c = rtS h c := fun c hc => by unfold rt0; rw [passH_cell hc, rtZ_cell hc]
  have cz : ∀ q, q ≠ 4 → (q < 15 ∨ 18 < q) → rt0 h q = rtI h q := fun q n hq => by rw [ck q n, S3 q hq]
  have v7 : rt0 h 4 7 = 0 := by unfold rt0; rw [passH_7, if_pos z, z7]; rfl
  have v2 : rt0 h 2 = h 2 := (cz 2 (by decide) (by decide)).trans e2
  have v3 : rt0 h 3 = h 3 := (cz 3 (by decide) (by decide)).trans e3
  have tx : txB (rt0 h) = txB (rtI h) := txB_cg (v2.trans e2.symm) (v3.trans e3.symm)
  have R := G.1
  refine ⟨T, ⟨⟨⟨⟨by rw [v7]; decide, by rw [v7]; omega⟩, by rw [ck 15 (by decide)]; exact f7, R.1.2.2⟩, R.2⟩, G.2⟩, ⟨fun _ _ _ _ _ => rfl, ?_, fun q q0 q1 => ?_, fun q q0 q1 => ?_, ?_, ?_, ?_⟩, ⟨?_, v7, ?_, ?_⟩, fun c h4 h7 h14 hc => (cz c h4 hc).trans (rtI_cell h7 h14), fun q => ?_, fun q => ?_⟩
  · rw [ck 16 (by decide), tx, v2]; exact f2
  · rw [ck 16 (by decide), ck 17 (by decide), tx, v2]; exact f3 q q0 q1
  · rw [ck 15 (by decide), ck 16 (by decide), ck 17 (by decide), ck 18 (by decide)]
    exact TKP_cg (e2.trans v2.symm) (e3.trans v3.symm) (f4 q q0 q1)
  · rw [ck 16 (by decide), v2]; exact f5
  · rw [ck 17 (by decide), v2]; exact f6
  · rw [ck 15 (by decide)]; exact f7
  · unfold rt0; rw [pass_10]; exact z
  · unfold rt0; rw [passH_10 (by decide) (by decide) (by decide)]; exact z11
  · unfold rt0
    rw [passH_8, if_pos z, z7, passH_cell (by decide)]
    rfl
  · rw [cz 7 (by decide) (by decide)]
    have e : rdA (rtI h) 7 4 q = 0 := by
      unfold rtI
      rw [rdA_cg (flF_cell (by decide) _ _ _), rdA_flF _ _ _ _ (by decide)]
      split
      · rfl
      · exact rdA_out (by omega)
    exact e
  · rw [cz 14 (by decide) (by decide)]
    have e : rdA (rtI h) 14 132 q = 0 := by
      unfold rtI
      rw [rdA_flF _ _ _ _ (by decide)]
      split
      · rfl
      · exact rdA_out (by omega)
    exact e
/-- the first token of both -/
theorem OKR_first {T : Nat} {v g g' : HP} (z : v 4 10 = 0) (z7 : v 4 7 = 0) (z8 : v 4 8 = rd (v 16) 1501 0) (R : RT T v) (K : TKS T v) (X : TxR v g) (g23 : g 50 23 = 0) (g24 : g 50 24 = v 4 11) (F : FrK g g') (P : TokP v 0 g') : OKR T v g' := by
  have k := R.1.2.2 z
  rw [z7] at k
  have K' := K
  obtain ⟨-, t2, t3, t4, t5, t6, t7⟩ := K'
  have eE : enH v = rd (v 17) 1501 0 := by unfold enH; rw [z7]; rfl
  have eV : tvH v = rd (v 18) 1501 0 := by unfold tvH; rw [z7]; rfl
  have et : tkA v 0 = rd (v 16) 1501 0 := t2.symm
  obtain ⟨q1, q2, q3, q4⟩ := P
  rw [et] at q1 q2 q3
  refine ⟨⟨z, by rw [F.2 23 (by decide)]; exact g23⟩, ⟨by rw [F.2 24 (by decide)]; exact g24, K⟩, ⟨by rw [z7]; decide, by rw [z7]; exact z8⟩, ?_, TxR_K X F⟩
  rw [z8, eE, k, eV]
  by_cases y : T = 0
  · subst y
    have t5 : rd (v 16) 1501 0 = v 2 1 := t5
    have t6 : rd (v 17) 1501 0 = v 2 1 := t6
    have t7 : rd (v 15) 1501 0 = 1 := t7
    have w := q2 t5
    refine ⟨q1, by rw [w.1, t6], by rw [w.2, t7]; rfl, fun u => ?_⟩
    rw [t7] at u
    exact absurd u (by decide)
  · have B : TKP v (rd (v 16) 1501 0) (rd (v 17) 1501 0) (rd (v 15) 1501 0) (rd (v 18) 1501 0) := t4 0 (Nat.le_refl _) (by omega)
    have w := q3 B.1.2
    rw [← B.2.2.1, ← B.2.2.2.1] at w
    refine ⟨q1, w.1, w.2.1, fun u => ?_⟩
    rw [w.2.2 u]
    rw [u] at B
    have kn := TKP_num B
    rw [kn.1]
    exact kn.2.2.symm
theorem lpR_stop {F : HP → HP} {k : Int} : ∀ (m : Nat) (w : HP), w 4 9 ≠ k → lpR F k m w = w
  | 0, _, _ => rfl
  | m + 1, w, h => by
    unfold lpR
    rw [if_neg h]
/-- the model at the beginning of load -/
def gI (g : HP) : HP := up (up (up (up (up (up (up (up (up (up g 50 0 0) 50 18 (g 50 17)) 50 17 0) 50 19 0) 50 23 0) 50 24 (-1)) 50 25 0) 50 26 0) 50 27 0) 50 28 0
def zt (g : HP) (k : Nat) : HP := fun c p => if c = 67 ∧ p < k then 0 else g c p
theorem zt_0 {g : HP} : zt g 0 = g := by
  funext c p
  unfold zt
  rw [if_neg (fun z => by omega)]
theorem zt_cell {g : HP} {k c : Nat} (n : c ≠ 67) : zt g k c = g c := by
  funext p
  unfold zt
  rw [if_neg (fun z => n z.1)]
theorem zt_up {g : HP} {k : Nat} : up (zt g k) 67 k 0 = zt g (k + 1) := by
  funext c p
  by_cases z : c = 67
  · subst z
    rw [up_at]
    unfold zt
    by_cases y : p = k
    · rw [if_pos y, if_pos ⟨rfl, by omega⟩]
    · rw [if_neg y]
      by_cases w : p < k
      · rw [if_pos ⟨rfl, w⟩, if_pos ⟨rfl, by omega⟩]
      · rw [if_neg (fun u => w u.2), if_neg (fun u => by omega)]
  · rw [up_cell z, zt_cell z, zt_cell z]
theorem gI_cell {g : HP} {c : Nat} (n : c ≠ 50) : gI g c = g c := by
  unfold gI
  rw [up_cell n, up_cell n, up_cell n, up_cell n, up_cell n, up_cell n, up_cell n, up_cell n, up_cell n, up_cell n]
/-- what a load of the model changes before it is decided -/
def FrD2 (g g3 : HP) : Prop := (∀ c, c ≠ 50 → (c < 62 ∨ 68 < c) → g3 c = g c) ∧ g3 50 0 = 0 ∧ g3 50 17 = 0 ∧ ∀ q, q ≠ 0 → q ≠ 17 → (q < 18 ∨ 28 < q) → g3 50 q = g 50 q
section MLOAD
variable {M : List CT} {h g : HP}
theorem m_load (t0 : 0 ≤ h 2 1 ∧ h 2 1 ≤ 1500) (t1 : g 50 17 = h 2 1) (t2 : ∀ i : Nat, (i : Int) < h 2 1 → g 61 i = txB h i) (K : TKI h) (hr : rwB 80 h) (hp : ptB 50 h) (nb : 0 ≤ g 50 22 ∧ g 50 22 ≤ 9999) :
    Ok 207 [vR 50] (LL M) g (fun o Λ' g' => Λ' = LL M ∧ ∃ (T : Nat) (g3 : HP), LNR T (rtE h) g3 ∧ FrD2 g g3 ∧ ((rtE h 4 10 = 0 ∧ o = .inl (some (vI (rd (rtE h 7) 4 3))) ∧ g' = bgH g3) ∨ (rtE h 4 10 ≠ 0 ∧ o = .inl (some (vI 0)) ∧ g' = up g3 50 0 1))) := by
  obtain ⟨T, G0, K0, ⟨z10, z7, z11, z8⟩, c0, n7, n14⟩ := rt0_sim t0 K hr hp
  have R0 := G0.1
  have R4 : L3 (rt4 h) = 0 := by
    have A : RC T 7 0 (rt1 h) := RC_rs (RC_rg G0)
    have B : RC T (7 + ((9 : Nat) : Int)) 0 (rt2 h) := RC_lp (fun b g _ G => RC_rm G) 9 7 _ (by decide) A
    have C : RC T (7 + ((9 : Nat) : Int) + ((5 : Nat) : Int)) 0 (rt3 h) := RC_lp (fun b g _ G => RC_ch G) 5 _ _ (by decide) B
    have D : RC T (7 + ((9 : Nat) : Int) + ((5 : Nat) : Int) + ((7 : Nat) : Int)) 0 (rt4 h) := RC_lp (fun b g hb G => RC_pi hb G) 7 _ _ (by decide) C
    have := D.2.2.2.2
    omega
  obtain ⟨gZ, eZ⟩ : ∃ gZ : HP, gZ = zt (gI g) 132 := ⟨_, rfl⟩
  have gf : ∀ q, gZ 50 q = gI g 50 q := fun q => by rw [eZ, zt_cell (by decide)]
  have gc : ∀ c, c ≠ 50 → c ≠ 67 → gZ c = g c := fun c h0 h1 => by rw [eZ, zt_cell h1, gI_cell h0]
  have f18 : gZ 50 18 = h 2 1 := by
    rw [gf, ← t1]
    unfold gI
    rw [up_ne (by decide), up_ne (by decide), up_ne (by decide), up_ne (by decide), up_ne (by decide), up_ne (by decide), up_ne (by decide), up_ne (by decide), up_same]
  have f19 : gZ 50 19 = 0 := by
    rw [gf]
    unfold gI
    rw [up_ne (by decide), up_ne (by decide), up_ne (by decide), up_ne (by decide), up_ne (by decide), up_ne (by decide), up_same]
  have f17 : gZ 50 17 = 0 := by
    rw [gf]
    unfold gI
    rw [up_ne (by decide), up_ne (by decide), up_ne (by decide), up_ne (by decide), up_ne (by decide), up_ne (by decide), up_ne (by decide), up_same]
  have f0 : gZ 50 0 = 0 := by
    rw [gf]
    unfold gI
    rw [up_ne (by decide), up_ne (by decide), up_ne (by decide), up_ne (by decide), up_ne (by decide), up_ne (by decide), up_ne (by decide), up_ne (by decide), up_ne (by decide), up_same]
  have f23 : gZ 50 23 = 0 := by
    rw [gf]
    unfold gI
    rw [up_ne (by decide), up_ne (by decide), up_ne (by decide), up_ne (by decide), up_ne (by decide), up_same]
  have f24 : gZ 50 24 = -1 := by
    rw [gf]
    unfold gI
    rw [up_ne (by decide), up_ne (by decide), up_ne (by decide), up_ne (by decide), up_same]
  have f25 : gZ 50 25 = 0 ∧ gZ 50 26 = 0 ∧ gZ 50 27 = 0 ∧ gZ 50 28 = 0 := by
    rw [gf, gf, gf, gf]
    unfold gI
    exact ⟨by rw [up_ne (by decide), up_ne (by decide), up_ne (by decide), up_same], by rw [up_ne (by decide), up_ne (by decide), up_same], by rw [up_ne (by decide), up_same], up_same⟩
  have fo : ∀ q, q ≠ 0 → q ≠ 17 → (q < 18 ∨ 28 < q) → gZ 50 q = g 50 q := fun q q0 q17 hq => by
    rw [gf]
    unfold gI
    rw [up_ne (by omega), up_ne (by omega), up_ne (by omega), up_ne (by omega), up_ne (by omega), up_ne (by omega), up_ne (by omega), up_ne (by omega), up_ne (by omega), up_ne (by omega)]
  have f22 : gZ 50 22 = g 50 22 := by
    rw [gf]
    unfold gI
    rw [up_ne (by decide), up_ne (by decide), up_ne (by decide), up_ne (by decide), up_ne (by decide), up_ne (by decide), up_ne (by decide), up_ne (by decide), up_ne (by decide), up_ne (by decide)]
  have v2 : rt0 h 2 = h 2 := c0 2 (by decide) (by decide) (by decide) (by decide)
  have v3 : rt0 h 3 = h 3 := c0 3 (by decide) (by decide) (by decide) (by decide)
  have X0 : TxR (rt0 h) gZ := ⟨by rw [v2]; exact t0, by rw [v2]; exact f18, fun i hi => by
    rw [v2] at hi
    rw [gc 61 (by decide) (by decide), txB_cg v2 v3]
    exact t2 i hi⟩
  have z67 : ∀ q, rd (gZ 67) 132 q = 0 := fun q => by
    unfold rd
    by_cases y : 0 ≤ q ∧ q < ((132 : Nat) : Int)
    · rw [if_pos y, eZ]
      unfold zt
      rw [if_pos ⟨rfl, by omega⟩]
    · rw [if_neg y]
  have fin : ∀ g3 : HP, FrL gZ g3 → FrD2 g g3 := fun g3 F => ⟨fun c h0 h1 => (F.1 c h0 h1).trans (gc c h0 (by omega)), (F.2 0 (by decide)).trans f0, (F.2 17 (by decide)).trans f17, fun q h0 h17 hq => (F.2 q (by omega)).trans (fo q h0 h17 hq)⟩
  refine ok_body B_X9_load rfl (fun X hX => ?_)
  /- it is decided -/
  have at169 : ∀ (g3 : HP) (j1 : Int), LNR T (rtE h) g3 → FrL gZ g3 → X 169 [vR 50, vI j1] [] (LL M) g3 0 0 := by
    intro g3 j1 H F
    have fd := fin g3 F
    refine hX 20 [182] 169 _ _ _ _ _ _ ?_
    refine Ok_rt (m_isWrong H.1) ?_
    by_cases z : rtE h 4 10 = 0
    · rw [if_pos z]
      refine And.intro (fun y => absurd rfl y) (fun _ => ?_)
      refine hX 30 [191] 182 _ _ _ _ _ _ ?_
      refine Ok_rt (mayT (by decide) fd.2.1) ?_
      refine And.intro (fun _ => ?_) (fun y => absurd y (by decide))
      refine hX 30 [] 191 _ _ _ _ _ _ ?_
      refine Ok_rt m_begins ?_
      have e4 : bgH g3 50 4 = rd (rtE h 7) 4 3 := by
        unfold bgH
        rw [up_cell (by decide), up_cell (by decide), up_ne (by decide)]
        unfold bgG bgF bgE bgD bgC bgB
        rw [cpy_cell (by decide), cpy_cell (by decide), cpy_cell (by decide), cpy_cell (by decide), cpy_cell (by decide), cpy_cell (by decide), cpy_cell (by decide)]
        unfold bgA
        rw [up_same]
        exact (H.2 z).2.1.2.2.2
      exact ⟨rfl, T, g3, H, fd, Or.inl ⟨z, by rw [← e4], rfl⟩⟩
    · rw [if_neg z]
      refine And.intro (fun _ => ?_) (fun y => absurd y (by decide))
      refine hX 30 [191] 182 _ _ _ _ _ _ ?_
      refine Ok_rt (mayF (by decide) fd.2.1) ?_
      refine And.intro (fun y => absurd rfl y) (fun _ => ?_)
      exact ⟨rfl, T, g3, H, fd, Or.inr ⟨z, rfl, rfl⟩⟩
  have at150 : ∀ (g3 : HP) (j1 : Int), LNR T (rt5 h) g3 → FrL gZ g3 → X 150 [vR 50, vI j1] [] (LL M) g3 0 0 := by
    intro g3 j1 H F
    refine hX 20 [157, 169] 150 _ _ _ _ _ _ ?_
    refine Ok_rt (m_isWrong H.1) ?_
    by_cases z : rt5 h 4 10 = 0
    · rw [if_pos z]
      refine And.intro (fun y => absurd rfl y) (fun _ => ?_)
      have O := SR_ok H.1 z
      have e21 := O.2.2.2.1.2.2.1
      refine hX 20 [169] 157 _ _ _ _ _ _ ?_
      refine And.intro (fun c => ?_) (fun c => ?_)
      · have c : g3 50 21 = 0 := c
        have k1 : rt5 h 4 9 = 1 := srt_0.mp (by rw [← e21]; exact c)
        have eE : rtE h = rt5 h := by unfold rtE; rw [if_pos k1, fail_0]
        exact at169 g3 j1 (by rw [eE]; exact H) F
      · have c : g3 50 21 ≠ 0 := c
        have k1 : rt5 h 4 9 ≠ 1 := fun y => c (by rw [e21]; exact srt_0.mpr y)
        have H1 := SR_fails (c := 1) (x := 1) H.1 (by decide) (by decide)
        have z1 : failH (rt5 h) 1 1 4 10 ≠ 0 := fun w => absurd (fail_10 (by decide) w).2 (by decide)
        have eE : rtE h = failH (rt5 h) 1 1 := by unfold rtE; rw [if_neg k1]
        refine Ok_rt (m_fails H.1) ?_
        exact at169 _ j1 ⟨by rw [eE]; exact H1, fun y => absurd y (by rw [eE]; exact z1)⟩ (FrL_tr F (FrL_T flG_fr))
    · rw [if_neg z]
      refine And.intro (fun _ => ?_) (fun y => absurd y (by decide))
      have eE : rtE h = rt5 h := by unfold rtE; rw [fail_er z]
      exact at169 g3 j1 (by rw [eE]; exact H) F
  have at133 : ∀ (m : Nat) (w g3 : HP) (j1 : Int), rt5 h = lpR rlH 14 m w → LNR T w g3 → FrL gZ g3 → (w 4 10 = 0 → rd (w 14) 132 3 + (m : Int) = 11) → X 133 [vR 50, vI j1] [] (LL M) g3 0 0 := by
    intro m
    induction m with
    | zero =>
      intro w g3 j1 ew H F Q
      have ew : rt5 h = w := ew
      refine hX 20 [150] 133 _ _ _ _ _ _ ?_
      refine Ok_mono (fun o' Λ' h2 hp => ?_) (m_word 10 14 ⟨by decide, by decide⟩ (by decide) H.1)
      obtain ⟨e1, e2, x, e3, hb⟩ := hp
      subst e1
      rw [e2, e3]
      rcases hb with ⟨k, rfl⟩ | ⟨k, rfl⟩
      · have z := SR_kz H.1 k (by decide)
        have q := Q z
        have b := (H.2 z).2.2.1.2.2.2.2.1
        omega
      · refine And.intro (fun _ => ?_) (fun y => absurd rfl y)
        exact at150 g3 j1 (by rw [ew]; exact H) F
    | succ m ih =>
      intro w g3 j1 ew H F Q
      refine hX 20 [133, 150] 133 _ _ _ _ _ _ ?_
      refine Ok_mono (fun o' Λ' h2 hp => ?_) (m_word 10 14 ⟨by decide, by decide⟩ (by decide) H.1)
      obtain ⟨e1, e2, x, e3, hb⟩ := hp
      subst e1
      rw [e2, e3]
      rcases hb with ⟨k, rfl⟩ | ⟨k, rfl⟩
      · refine And.intro (fun y => absurd y (by decide)) (fun _ => ?_)
        have z := SR_kz H.1 k (by decide)
        have st : lpR rlH 14 (m + 1) w = lpR rlH 14 m (rlH w) := by
          conv => lhs; unfold lpR
          rw [if_pos k]
        rw [st] at ew
        refine Ok_mono (fun o' Λ' g4 hp => ?_) (m_lotLine H k)
        obtain ⟨e1, e2, F2, H2, C2⟩ := hp
        subst e1
        subst e2
        exact ih (rlH w) g4 j1 ew H2 (FrL_tr F F2) (fun y => by have := C2 y; have := Q z; omega)
      · refine And.intro (fun _ => ?_) (fun y => absurd rfl y)
        rw [lpR_stop _ _ k] at ew
        exact at150 g3 j1 (by rw [ew]; exact H) F
  have at116 : ∀ (m : Nat) (w g3 : HP) (j1 : Int), rt4 h = lpR piH 9 m w → LNR T w g3 → FrL gZ g3 → (w 4 10 = 0 → rd (w 7) 4 3 + (m : Int) = 7 ∧ EaR w) → X 116 [vR 50, vI j1] [] (LL M) g3 0 0 := by
    have nx : ∀ (g3 : HP) (j1 : Int), LNR T (rt4 h) g3 → FrL gZ g3 → X 133 [vR 50, vI j1] [] (LL M) g3 0 0 := fun g3 j1 H F => at133 11 (rt4 h) g3 j1 rfl H F (fun _ => by
      have e : rd (rt4 h 14) 132 3 = L3 (rt4 h) := rfl
      omega)
    intro m
    induction m with
    | zero =>
      intro w g3 j1 ew H F Q
      have ew : rt4 h = w := ew
      refine hX 20 [133] 116 _ _ _ _ _ _ ?_
      refine Ok_mono (fun o' Λ' h2 hp => ?_) (m_word 5 9 ⟨by decide, by decide⟩ (by decide) H.1)
      obtain ⟨e1, e2, x, e3, hb⟩ := hp
      subst e1
      rw [e2, e3]
      rcases hb with ⟨k, rfl⟩ | ⟨k, rfl⟩
      · have z := SR_kz H.1 k (by decide)
        have q := (Q z).1
        have b := ((H.2 z).1.1 3 (by decide)).2
        have e : rd (w 7) 4 ((3 : Nat) : Int) = rd (w 7) 4 3 := rfl
        have c : capI ((3 : Nat) : Int) = 6 := rfl
        omega
      · refine And.intro (fun _ => ?_) (fun y => absurd rfl y)
        exact nx g3 j1 (by rw [ew]; exact H) F
    | succ m ih =>
      intro w g3 j1 ew H F Q
      refine hX 20 [116, 133] 116 _ _ _ _ _ _ ?_
      refine Ok_mono (fun o' Λ' h2 hp => ?_) (m_word 5 9 ⟨by decide, by decide⟩ (by decide) H.1)
      obtain ⟨e1, e2, x, e3, hb⟩ := hp
      subst e1
      rw [e2, e3]
      rcases hb with ⟨k, rfl⟩ | ⟨k, rfl⟩
      · refine And.intro (fun y => absurd y (by decide)) (fun _ => ?_)
        have z := SR_kz H.1 k (by decide)
        obtain ⟨q1, q2⟩ := Q z
        have st : lpR piH 9 (m + 1) w = lpR piH 9 m (piH w) := by
          conv => lhs; unfold lpR
          rw [if_pos k]
        rw [st] at ew
        refine Ok_mono (fun o' Λ' g4 hp => ?_) (m_pieceLine H k q2)
        obtain ⟨e1, e2, F2, H2, C2⟩ := hp
        subst e1
        subst e2
        exact ih (piH w) g4 j1 ew H2 (FrL_tr F F2) (fun y => ⟨by have := (C2 y).1; omega, (C2 y).2⟩)
      · refine And.intro (fun _ => ?_) (fun y => absurd rfl y)
        rw [lpR_stop _ _ k] at ew
        exact nx g3 j1 (by rw [ew]; exact H) F
  have at100 : ∀ (m : Nat) (w g3 : HP) (j1 : Int), rt3 h = lpR chH 20 m w → LNR T w g3 → FrL gZ g3 → (w 4 10 = 0 → rd (w 7) 4 2 + (m : Int) = 5 ∧ rd (w 7) 4 3 = 0 ∧ EaR w) → X 100 [vR 50, vI j1] [] (LL M) g3 0 0 := by
    have nx : ∀ (g3 : HP) (j1 : Int), LNR T (rt3 h) g3 → FrL gZ g3 → (rt3 h 4 10 = 0 → rd (rt3 h 7) 4 3 = 0 ∧ EaR (rt3 h)) → X 116 [vR 50, vI j1] [] (LL M) g3 0 0 := fun g3 j1 H F Q => at116 7 (rt3 h) g3 j1 rfl H F (fun y => ⟨by have := (Q y).1; omega, (Q y).2⟩)
    intro m
    induction m with
    | zero =>
      intro w g3 j1 ew H F Q
      have ew : rt3 h = w := ew
      refine hX 20 [116] 100 _ _ _ _ _ _ ?_
      refine Ok_mono (fun o' Λ' h2 hp => ?_) (m_word 16 20 ⟨by decide, by decide⟩ (by decide) H.1)
      obtain ⟨e1, e2, x, e3, hb⟩ := hp
      subst e1
      rw [e2, e3]
      rcases hb with ⟨k, rfl⟩ | ⟨k, rfl⟩
      · have z := SR_kz H.1 k (by decide)
        have q := (Q z).1
        have b := ((H.2 z).1.1 2 (by decide)).2
        have e : rd (w 7) 4 ((2 : Nat) : Int) = rd (w 7) 4 2 := rfl
        have c : capI ((2 : Nat) : Int) = 4 := rfl
        omega
      · refine And.intro (fun _ => ?_) (fun y => absurd rfl y)
        exact nx g3 j1 (by rw [ew]; exact H) F (fun y => by rw [ew] at y ⊢; exact (Q y).2)
    | succ m ih =>
      intro w g3 j1 ew H F Q
      refine hX 20 [100, 116] 100 _ _ _ _ _ _ ?_
      refine Ok_mono (fun o' Λ' h2 hp => ?_) (m_word 16 20 ⟨by decide, by decide⟩ (by decide) H.1)
      obtain ⟨e1, e2, x, e3, hb⟩ := hp
      subst e1
      rw [e2, e3]
      rcases hb with ⟨k, rfl⟩ | ⟨k, rfl⟩
      · refine And.intro (fun y => absurd y (by decide)) (fun _ => ?_)
        have z := SR_kz H.1 k (by decide)
        obtain ⟨q1, q2, q3⟩ := Q z
        have st : lpR chH 20 (m + 1) w = lpR chH 20 m (chH w) := by
          conv => lhs; unfold lpR
          rw [if_pos k]
        rw [st] at ew
        refine Ok_mono (fun o' Λ' g4 hp => ?_) (m_chartLine H k)
        obtain ⟨e1, e2, F2, H2, C2⟩ := hp
        subst e1
        subst e2
        exact ih (chH w) g4 j1 ew H2 (FrL_tr F F2) (fun y => ⟨by have := C2 y; omega, by rw [cnt_ch y (by decide)]; exact q2, EaR_ch q3 y⟩)
      · refine And.intro (fun _ => ?_) (fun y => absurd rfl y)
        rw [lpR_stop _ _ k] at ew
        exact nx g3 j1 (by rw [ew]; exact H) F (fun y => by rw [ew] at y ⊢; exact (Q y).2)
  have at83 : ∀ (m : Nat) (w g3 : HP) (j1 : Int), rt2 h = lpR rmH 8 m w → LNR T w g3 → FrL gZ g3 → (w 4 10 = 0 → rd (w 7) 4 1 + (m : Int) = 9 ∧ rd (w 7) 4 2 = 0 ∧ rd (w 7) 4 3 = 0 ∧ EaR w) → X 83 [vR 50, vI j1] [] (LL M) g3 0 0 := by
    have nx : ∀ (g3 : HP) (j1 : Int), LNR T (rt2 h) g3 → FrL gZ g3 → (rt2 h 4 10 = 0 → rd (rt2 h 7) 4 2 = 0 ∧ rd (rt2 h 7) 4 3 = 0 ∧ EaR (rt2 h)) → X 100 [vR 50, vI j1] [] (LL M) g3 0 0 := fun g3 j1 H F Q => at100 5 (rt2 h) g3 j1 rfl H F (fun y => ⟨by have := (Q y).1; omega, (Q y).2⟩)
    intro m
    induction m with
    | zero =>
      intro w g3 j1 ew H F Q
      have ew : rt2 h = w := ew
      refine hX 20 [100] 83 _ _ _ _ _ _ ?_
      refine Ok_mono (fun o' Λ' h2 hp => ?_) (m_word 4 8 ⟨by decide, by decide⟩ (by decide) H.1)
      obtain ⟨e1, e2, x, e3, hb⟩ := hp
      subst e1
      rw [e2, e3]
      rcases hb with ⟨k, rfl⟩ | ⟨k, rfl⟩
      · have z := SR_kz H.1 k (by decide)
        have q := (Q z).1
        have b := ((H.2 z).1.1 1 (by decide)).2
        have e : rd (w 7) 4 ((1 : Nat) : Int) = rd (w 7) 4 1 := rfl
        have c : capI ((1 : Nat) : Int) = 8 := rfl
        omega
      · refine And.intro (fun _ => ?_) (fun y => absurd rfl y)
        exact nx g3 j1 (by rw [ew]; exact H) F (fun y => by rw [ew] at y ⊢; exact (Q y).2)
    | succ m ih =>
      intro w g3 j1 ew H F Q
      refine hX 20 [83, 100] 83 _ _ _ _ _ _ ?_
      refine Ok_mono (fun o' Λ' h2 hp => ?_) (m_word 4 8 ⟨by decide, by decide⟩ (by decide) H.1)
      obtain ⟨e1, e2, x, e3, hb⟩ := hp
      subst e1
      rw [e2, e3]
      rcases hb with ⟨k, rfl⟩ | ⟨k, rfl⟩
      · refine And.intro (fun y => absurd y (by decide)) (fun _ => ?_)
        have z := SR_kz H.1 k (by decide)
        obtain ⟨q1, q2, q3, q4⟩ := Q z
        have st : lpR rmH 8 (m + 1) w = lpR rmH 8 m (rmH w) := by
          conv => lhs; unfold lpR
          rw [if_pos k]
        rw [st] at ew
        have N := (H.2 z).1
        refine Ok_mono (fun o' Λ' g4 hp => ?_) (m_measureLine H k)
        obtain ⟨e1, e2, F2, H2, C2⟩ := hp
        subst e1
        subst e2
        exact ih (rmH w) g4 j1 ew H2 (FrL_tr F F2) (fun y => ⟨by have := C2 y; omega, by rw [cnt_rm y (by decide)]; exact q2, by rw [cnt_rm y (by decide)]; exact q3, EaR_rm N q4 y⟩)
      · refine And.intro (fun _ => ?_) (fun y => absurd rfl y)
        rw [lpR_stop _ _ k] at ew
        exact nx g3 j1 (by rw [ew]; exact H) F (fun y => by rw [ew] at y ⊢; exact (Q y).2)
  have at75 : X 75 [vR 50, vI 132] [] (LL M) gZ 0 0 := by
    refine hX 20 [83] 75 _ _ _ _ _ _ ?_
    refine Ok_mono (fun o' Λ' g1 hp => ?_) (m_token X0 (by rw [f19]; exact ⟨by decide, X0.1.1⟩) (by rw [f22]; exact nb))
    obtain ⟨e1, e2, F1, P1⟩ := hp
    subst e1
    subst e2
    rw [f19] at P1
    have S1 : SR T (rt0 h) g1 := ⟨⟨P1.2.2.2, R0⟩, Or.inr (OKR_first z10 z7 z8 R0 K0 X0 f23 (by rw [f24, z11]) F1 P1)⟩
    refine Ok_mono (fun o' Λ' g2 hp => ?_) (m_head S1 n7 n14 (fun q => by rw [F1.1 67 (by decide)]; exact z67 q) (by rw [F1.2 25 (by decide), F1.2 26 (by decide), F1.2 27 (by decide), F1.2 28 (by decide)]; exact f25))
    obtain ⟨e1, e2, F2, H2⟩ := hp
    subst e1
    subst e2
    have H2 : LNR T (rt1 h) g2 := H2
    have e7 : rgH (rt0 h) 7 = rt0 h 7 := rg_cell (by decide) (by decide)
    have cs : ∀ (m : Nat) (w : HP), (∀ j, j ≠ 0 → rd (w 7) 4 j = 0) → szL m w 4 10 = 0 → ∀ j, j ≠ 0 → rd (szL m w 7) 4 j = 0 := by
      intro m
      induction m with
      | zero => exact fun w hw _ => hw
      | succ m ih =>
        intro w hw hz
        unfold szL at hz ⊢
        by_cases y : 4 ≤ w 4 9
        · rw [if_pos y] at hz ⊢
          refine ih (nnP w 0) (fun j hj => ?_) hz
          by_cases u : nnP w 0 4 10 = 0
          · rw [cnt_nn ⟨by decide, by decide⟩ u j, if_neg hj]
            exact hw j hj
          · have st : ∀ (m : Nat) (w : HP), w 4 10 ≠ 0 → szL m w 4 10 ≠ 0 := by
              intro m
              induction m with
              | zero => exact fun w h => h
              | succ m ih =>
                intro w h
                unfold szL
                split
                · rw [nn_er h]
                  exact ih w h
                · exact h
            exact absurd hz (st m _ u)
        · rw [if_neg y]
          exact hw
    have cR : rt1 h 4 10 = 0 → ∀ j, j ≠ 0 → rd (rt1 h 7) 4 j = 0 := fun y j hj => by
      unfold rt1 rsH at y
      have y2 : szL 6 (nnP (ptH (rgH (rt0 h)) 7) 0) 4 10 = 0 := (pt_10 y).1
      have e : rt1 h 7 = szL 6 (nnP (ptH (rgH (rt0 h)) 7) 0) 7 := by
        unfold rt1 rsH
        rw [pt_cell (by decide)]
      rw [e]
      refine cs 6 _ (fun i hi => ?_) y2 j hj
      by_cases u : nnP (ptH (rgH (rt0 h)) 7) 0 4 10 = 0
      · rw [cnt_nn ⟨by decide, by decide⟩ u i, if_neg hi, pt_cell (by decide), e7]
        exact n7 i
      · have ub : ∀ (m : Nat) (w : HP), w 4 10 ≠ 0 → szL m w 4 10 ≠ 0 := by
          intro m
          induction m with
          | zero => exact fun w h => h
          | succ m ih =>
            intro w h
            unfold szL
            split
            · rw [nn_er h]
              exact ih w h
            · exact h
        exact absurd y2 (ub 6 _ u)
    exact at83 9 (rt1 h) g2 132 rfl H2 (FrL_tr (FrL_T (FrT_K F1)) F2) (fun y => ⟨by rw [cR y 1 (by decide)]; rfl, cR y 2 (by decide), cR y 3 (by decide), EaR_hd n14⟩)
  have loop : ∀ (m k : Nat), k + m = 132 → X 55 [vR 50, vI (k : Int)] [] (LL M) (zt (gI g) k) 0 0 := by
    intro m
    induction m with
    | zero =>
      intro k hk
      have e : k = 132 := by omega
      subst e
      refine hX 20 [75] 55 _ _ _ _ _ _ ?_
      refine And.intro (fun _ => ?_) (fun y => absurd y (by decide))
      rw [← eZ]
      exact at75
    | succ m ih =>
      intro k hk
      refine hX 20 [55, 75] 55 _ _ _ _ _ _ ?_
      refine And.intro (fun y => absurd (show (132 : Int) ≤ (k : Int) from y) (by omega)) (fun _ => ?_)
      refine And.intro (show 0 ≤ (k : Int) ∧ (k : Int) < 132 from ⟨by omega, by omega⟩) ?_
      refine And.intro (show inR ((k : Int) + 1) from ⟨by omega, by omega⟩) ?_
      rw [Int.toNat_natCast, zt_up]
      exact ih (k + 1) (by omega)
  have go : X 53 [vR 50, vU] [] (LL M) (gI g) 0 0 := by
    refine hX 20 [55] 53 _ _ _ _ _ _ ?_
    show X 55 [_, vI 0] _ _ _ _ _
    have l := loop 132 0 (by omega)
    rw [zt_0] at l
    exact l
  have eI : up (up (up (up (up (up (up (up (up (up g 50 0 0) 50 18 (up g 50 0 0 50 17)) 50 17 0) 50 19 0) 50 23 0) 50 24 (-1)) 50 25 0) 50 26 0) 50 27 0) 50 28 0 = gI g := by
    unfold gI
    rw [up_ne (h := g) (a := 50) (j := 0) (k := 17) (v := 0) (by decide)]
  refine hX 60 [53] 0 _ _ _ _ _ _ ?_
  rw [← eI] at go
  exact go
end MLOAD
