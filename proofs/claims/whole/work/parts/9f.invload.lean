/-! ===== load keeps what holds between two calls ===== -/
theorem lp_cell {F : HP → HP} {k : Int} {q : Nat} (hF : ∀ g, F g q = g q) : ∀ (m : Nat) (g : HP), lpR F k m g q = g q
  | 0, _ => rfl
  | m + 1, g => by
    unfold lpR
    split
    · rw [lp_cell hF m, hF]
    · rfl
theorem rtE_cell {h : HP} (h2 : 0 ≤ h 2 1 ∧ h 2 1 ≤ 1500) (H : TKI h) (hr : rwB 80 h) (hp : ptB 50 h) {c : Nat} (hc : c < 4 ∨ 18 < c) : rtE h c = h c := by
  obtain ⟨T, -, -, -, c0, -⟩ := rt0_sim h2 H hr hp
  unfold rtE
  rw [failH_cell (by omega)]
  unfold rt5 rt4 rt3 rt2 rt1
  rw [lp_cell (fun g => rl_cell (by omega) (by omega)), lp_cell (fun g => pi_cell (by omega) (by omega) (by omega) (by omega) (by omega) (by omega)), lp_cell (fun g => ch_cell (by omega) (by omega) (by omega) (by omega) (by omega) (by omega)), lp_cell (fun g => rm_cell (by omega) (by omega) (by omega) (by omega)), rs_cell (by omega) (by omega) (by omega), rg_cell (by omega) (by omega)]
  exact c0 c (by omega) (by omega) (by omega) (by omega)
theorem lp_ok {F : HP → HP} {k : Int} (hF : ∀ w, F w 4 10 = 0 → w 4 10 = 0 ∧ rd (F w 7) 4 0 = rd (w 7) 4 0) : ∀ (m : Nat) (w : HP), lpR F k m w 4 10 = 0 → w 4 10 = 0 ∧ rd (lpR F k m w 7) 4 0 = rd (w 7) 4 0
  | 0, w, e => ⟨e, rfl⟩
  | m + 1, w, e => by
    unfold lpR at e ⊢
    split
    · next z =>
      rw [if_pos z] at e
      have a := lp_ok hF m _ e
      have b := hF w a.1
      exact ⟨b.1, a.2.trans b.2⟩
    · next z =>
      rw [if_neg z] at e
      exact ⟨e, rfl⟩
theorem rm_ok {w : HP} (e : rmH w 4 10 = 0) : w 4 10 = 0 ∧ rd (rmH w 7) 4 0 = rd (w 7) 4 0 :=
  ⟨(fail_10 (by decide) (pt_10 (nn_eq (v := rmA w) (i := 1) (rm_10 e)).2.1).1).1, cnt_rm e (by decide)⟩
theorem ch_ok {w : HP} (e : chH w 4 10 = 0) : w 4 10 = 0 ∧ rd (chH w 7) 4 0 = rd (w 7) 4 0 :=
  ⟨(fail_10 (by decide) (pt_10 (nn_eq (v := chA w) (i := 2) (ch_10 e)).2.1).1).1, cnt_ch e (by decide)⟩
theorem pi_ok {w : HP} (e : piH w 4 10 = 0) : w 4 10 = 0 ∧ rd (piH w 7) 4 0 = rd (w 7) 4 0 :=
  ⟨(fail_10 (by decide) (pt_10 (nn_eq (v := piA w) (i := 3) (pt_10 (pi_10 e)).1).2.1).1).1, cnt_pi e (by decide)⟩
theorem rl_ok {w : HP} (e : rlH w 4 10 = 0) : w 4 10 = 0 ∧ rd (rlH w 7) 4 0 = rd (w 7) 4 0 := by
  refine ⟨?_, by rw [rl_cell (by decide) (by decide)]⟩
  have y2 := (pt_10 e).1
  have y3 : rlB w 4 10 = 0 := by
    unfold rlC at y2
    split at y2
    · rw [wrA_cell (by decide), wrA_cell (by decide), wrA_cell (by decide)] at y2
      exact y2
    · exact y2
  exact (fail_10 (by decide) (pt_10 (num_10 (num_10 y3))).1).1
theorem sz_ge : ∀ (m : Nat) (w : HP), rdA w 7 4 0 ≤ rdA (szL m w) 7 4 0
  | 0, _ => Int.le_refl _
  | m + 1, w => by
    unfold szL
    split
    · have a := sz_ge m (nnP w 0)
      have b := (nn_cnt (h := w) (i := 0) (j := 0) ⟨by decide, by decide⟩).1
      omega
    · exact Int.le_refl _
theorem sz_er : ∀ (m : Nat) (w : HP), w 4 10 ≠ 0 → szL m w = w
  | 0, _, _ => rfl
  | m + 1, w, h => by
    unfold szL
    split
    · rw [nn_er h]
      exact sz_er m w h
    · rfl
/-- a text without an error tells a size -/
theorem rt_c0 {h : HP} (h2 : 0 ≤ h 2 1 ∧ h 2 1 ≤ 1500) (H : TKI h) (hr : rwB 80 h) (hp : ptB 50 h) (e : rtE h 4 10 = 0) : 1 ≤ rd (rtE h 7) 4 0 := by
  obtain ⟨T, -, -, -, -, n7, -⟩ := rt0_sim h2 H hr hp
  have e5 : rt5 h 4 10 = 0 := (fail_10 (by decide) e).1
  have a5 := lp_ok (fun w => rl_ok (w := w)) 11 (rt4 h) e5
  have a4 := lp_ok (fun w => pi_ok (w := w)) 7 (rt3 h) a5.1
  have a3 := lp_ok (fun w => ch_ok (w := w)) 5 (rt2 h) a4.1
  have a2 := lp_ok (fun w => rm_ok (w := w)) 9 (rt1 h) a3.1
  have c7 : rd (rtE h 7) 4 0 = rd (rt1 h 7) 4 0 := by
    have x : rtE h 7 = rt5 h 7 := by unfold rtE; rw [failH_cell (by decide)]
    rw [x]
    exact (a5.2.trans a4.2).trans (a3.2.trans a2.2)
  rw [c7]
  have y := a2.1
  obtain ⟨u, eu⟩ : ∃ u : HP, u = ptH (rgH (rt0 h)) 7 := ⟨_, rfl⟩
  unfold rt1 rsH at y ⊢
  rw [← eu] at y ⊢
  have y2 : szL 6 (nnP u 0) 4 10 = 0 := (pt_10 y).1
  have y3 : nnP u 0 4 10 = 0 := by
    by_cases z : nnP u 0 4 10 = 0
    · exact z
    · rw [sz_er 6 _ z] at y2
      exact absurd y2 z
  have cn := cnt_nn (v := u) (i := 0) ⟨by decide, by decide⟩ y3 0
  have u7 : rd (u 7) 4 0 = 0 := by rw [eu, pt_cell (by decide), rg_cell (by decide) (by decide)]; exact n7 0
  rw [if_pos rfl, u7] at cn
  have g := sz_ge 6 (nnP u 0)
  have g1 : rdA (nnP u 0) 7 4 0 = 1 := cn
  rw [pt_cell (by decide)]
  have g2 : rdA (szL 6 (nnP u 0)) 7 4 0 = rd (szL 6 (nnP u 0) 7) 4 0 := rfl
  omega
/-- what the readers hold between two calls -/
def RI (h : HP) : Prop := (TKI h ∧ rwB 80 h ∧ ptB 50 h) ∧ 0 ≤ h 50 22 ∧ h 50 22 ≤ 9999
theorem RI_fr {h h' : HP} (H : RI h) (hc : ∀ c, 4 ≤ c → c ≤ 18 → h' c = h c) (q : h' 50 22 = h 50 22) : RI h' :=
  ⟨⟨TKI_cg H.1.1 (hc 16 (by decide) (by decide)) (hc 17 (by decide) (by decide)) (hc 18 (by decide) (by decide)), rwB_cg H.1.2.1 (hc 8 (by decide) (by decide)), ptB_cg H.1.2.2 (hc 11 (by decide) (by decide))⟩, by rw [q]; exact H.2⟩
/-- an error, or nothing, is told and the text is empty -/
theorem INV_flt {h h2 : HP} (H : INV h) (gc : ∀ c, inI c → c ≠ 1 → c ≠ 2 → c ≠ 3 → c ≠ 61 → h2 c = h c) (g1 : ∀ q, q ≠ 13 → q ≠ 14 → h2 1 q = h 1 q) (gq : ∀ q, inF q → q ≠ 17 → q ≠ 23 → q ≠ 24 → h2 50 q = h 50 q) (T : TextC h2) (F : FaultC h2) : INV h2 := by
  obtain ⟨⟨a, b, c⟩, d, e, f, g, k⟩ := H
  have cs : ∀ c, 20 ≤ c → c ≤ 28 → h2 c = h c := fun c x y => gc c (by unfold inI; omega) (by omega) (by omega) (by omega) (by omega)
  have cm : ∀ c, 51 ≤ c → c ≤ 60 → h2 c = h c := fun c x y => gc c (by unfold inI; omega) (by omega) (by omega) (by omega) (by omega)
  have c47 := gc 47 (by unfold inI; omega) (by decide) (by decide) (by decide) (by decide)
  have c49 := gc 49 (by unfold inI; omega) (by decide) (by decide) (by decide) (by decide)
  refine ⟨⟨CI_fr a (fun c x y => cs c (by omega) y), Cpl_fr b (fun c x y => cs c (by omega) y) (fun c x y => cm c x (by omega)) (fun j x y => gq j (Or.inl ⟨x, y⟩) (by omega) (by omega) (by omega)), ?_⟩, ?_, ?_, T, F, ?_⟩
  · unfold undoOK at *; rw [g1 10 (by decide) (by decide), g1 11 (by decide) (by decide)]; exact c
  · unfold PastC pastR at *; rw [g1 10 (by decide) (by decide), g1 11 (by decide) (by decide), c47, cm 58 (by decide) (by decide), gq 15 (by unfold inF; omega) (by decide) (by decide) (by decide)]; exact d
  · unfold SlotC isSv at *; rw [g1 12 (by decide) (by decide), c49, cm 59 (by decide) (by decide), cm 60 (by decide) (by decide)]; exact e
  · unfold NameC at *; rw [cs 20 (by decide) (by decide), cs 21 (by decide) (by decide), cm 56 (by decide) (by decide)]; exact k
/-- what load keeps, but for the cells that no state holds -/
def FrD3 (g g3 : HP) : Prop := (∀ c, c ≠ 50 → c < 62 → g3 c = g c) ∧ g3 50 0 = 0 ∧ g3 50 17 = 0 ∧ ∀ q, q ≠ 0 → q ≠ 17 → (q < 18 ∨ 28 < q) → g3 50 q = g 50 q
theorem INV_load_x {h g3 : HP} {T : Nat} (H : INV h) (R : RI h) (z : rtE h 4 10 ≠ 0) (L : LNR T (rtE h) g3) (F : FrD3 (ldA h) g3) : INV (up g3 50 0 1) ∧ RI (up g3 50 0 1) := by
  have t := H.2.2.2.1.1
  have t2 : 0 ≤ h 2 1 ∧ h 2 1 ≤ 1500 := t.2
  have rc : ∀ c, (c < 4 ∨ 18 < c) → rtE h c = h c := fun c hc => rtE_cell t2 R.1.1 R.1.2.1 R.1.2.2 hc
  have lc : ∀ c, c ≠ 1 → c ≠ 2 → (c < 4 ∨ 18 < c) → ldA h c = h c := fun c h1 h2 hc => (ldA_cell h1 h2).trans (rc c hc)
  have gg : ∀ c, c ≠ 50 → c < 62 → up g3 50 0 1 c = ldA h c := fun c h0 hc => (up_cell h0).trans (F.1 c h0 hc)
  have kp := rtE_keep t2 R.1.1 R.1.2.1 R.1.2.2
  have a1 : ∀ q, ldA h 1 q = if q = 14 then rtE h 4 11 else if q = 13 then rtE h 4 10 else h 1 q := fun q => by
    unfold ldA
    rw [up_at, up_at, up_cell (by decide), rc 1 (by decide)]
  have a2 : ldA h 2 1 = 0 := by unfold ldA; rw [up_cell (by decide), up_cell (by decide), up_same]
  refine ⟨INV_flt H (fun c hc c1 c2 c3 c61 => ?_) (fun q h0 h1 => ?_) (fun q hq q17 q23 q24 => ?_) ?_ ?_, ⟨?_, ?_⟩⟩
  · unfold inI at hc
    rw [gg c (by omega) (by omega), lc c (by omega) (by omega) (by omega)]
  · rw [gg 1 (by decide) (by decide), a1, if_neg h1, if_neg h0]
  · unfold inF at hq
    rw [up_ne (by omega), F.2.2.2 q (by omega) q17 (by omega), lc 50 (by decide) (by decide) (by decide)]
  · have e21 : up g3 50 0 1 2 1 = 0 := by rw [gg 2 (by decide) (by decide)]; exact a2
    have e17 : up g3 50 0 1 50 17 = 0 := by rw [up_ne (by decide)]; exact F.2.2.1
    unfold TextC
    rw [e21, e17]
    exact ⟨⟨rfl, by decide, by decide⟩, fun j hj => absurd hj (by omega)⟩
  · unfold FaultC
    rw [up_ne (by decide), up_ne (by decide), gg 1 (by decide) (by decide), a1, a1, if_neg (by decide), if_pos rfl, if_pos rfl]
    exact ⟨SR_23 L.1, SR_24 L.1⟩
  · have c : ∀ c, 4 ≤ c → c ≤ 18 → up g3 50 0 1 c = rtE h c := fun c h0 h1 => (gg c (by omega) (by omega)).trans (ldA_cell (by omega) (by omega))
    exact ⟨TKI_cg kp.1 (c 16 (by decide) (by decide)) (c 17 (by decide) (by decide)) (c 18 (by decide) (by decide)), rwB_cg kp.2.1 (c 8 (by decide) (by decide)), ptB_cg kp.2.2 (c 11 (by decide) (by decide))⟩
  · rw [up_ne (by decide)]
    exact L.1.1.1
theorem PatOK_cg {a b c d e f a' b' c' d' e' f' : Nat → Int} (ha : rd a' 4 = rd a 4) (hb : rd b' 4 = rd b 4) (hc : rd c' 32 = rd c 32) (hd : rd d' 32 = rd d 32) (he : rd e' 6 = rd e 6) (hf : rd f' 540 = rd f 540) (H : PatOK a b c d e f) : PatOK a' b' c' d' e' f' := by
  unfold PatOK ChOK PtOK cF at *
  rw [ha, hb, hc, hd, he, hf]
  exact H
theorem bg_cells {g : HP} : (∀ c, c ≠ 50 → (c < 51 ∨ (57 < c ∧ c ≠ 60)) → bgH g c = g c) ∧ (∀ q, rd (bgH g 51) 4 q = rd (g 62) 4 q) ∧ (∀ q, rd (bgH g 52) 32 q = rd (g 63) 32 q) ∧ (∀ q, rd (bgH g 53) 32 q = rd (g 64) 32 q) ∧ (∀ q, rd (bgH g 54) 6 q = rd (g 65) 6 q) ∧ (∀ q, rd (bgH g 55) 480 q = rd (g 66) 480 q) ∧
    (∀ q, q < 192 → bgH g 56 q = g 68 q) ∧ (∀ q, rd (bgH g 57) 132 q = rd (g 67) 132 q) ∧ (bgH g 50 1 = g 50 25 ∧ bgH g 50 2 = g 50 26 ∧ bgH g 50 3 = g 50 27 ∧ bgH g 50 4 = g 50 28 ∧ bgH g 50 15 = 0) ∧ (∀ q, (q = 0 ∨ (4 < q ∧ q ≠ 15)) → bgH g 50 q = g 50 q) ∧ bgH g 60 0 = 0 ∧ bgH g 60 1 = 0 := by
  have top : ∀ c, c ≠ 50 → c ≠ 60 → bgH g c = bgG g c := fun c h0 h1 => by unfold bgH; rw [up_cell h1, up_cell h1, up_cell h0]
  have aA : ∀ c, c ≠ 50 → bgA g c = g c := fun c h => by unfold bgA; rw [up_cell h, up_cell h, up_cell h, up_cell h]
  have rdc : ∀ (x : HP) (a b len : Nat) (q : Int), rd (cpy x a b len b) len q = rd (x a) len q := fun x a b len q => by
    unfold rd
    by_cases z : 0 ≤ q ∧ q < (len : Int)
    · rw [if_pos z, if_pos z, cpy_in (by omega)]
    · rw [if_neg z, if_neg z]
  have cC : ∀ c, c ≠ 53 → c ≠ 52 → bgC g c = bgB g c := fun c h0 h1 => by unfold bgC; rw [cpy_cell h0, cpy_cell h1]
  have cB : ∀ c, c ≠ 51 → bgB g c = bgA g c := fun c h0 => by unfold bgB; rw [cpy_cell h0]
  have cD : ∀ c, c ≠ 54 → bgD g c = bgC g c := fun c h0 => by unfold bgD; rw [cpy_cell h0]
  have cE : ∀ c, c ≠ 55 → bgE g c = bgD g c := fun c h0 => by unfold bgE; rw [cpy_cell h0]
  have cF' : ∀ c, c ≠ 56 → bgF g c = bgE g c := fun c h0 => by unfold bgF; rw [cpy_cell h0]
  have cG : ∀ c, c ≠ 57 → bgG g c = bgF g c := fun c h0 => by unfold bgG; rw [cpy_cell h0]
  have all : ∀ c, (c < 51 ∨ 57 < c) → bgG g c = bgA g c := fun c h => by rw [cG c (by omega), cF' c (by omega), cE c (by omega), cD c (by omega), cC c (by omega) (by omega), cB c (by omega)]
  have f50 : ∀ q, q ≠ 15 → bgH g 50 q = bgA g 50 q := fun q hq => by
    unfold bgH
    rw [up_cell (by decide), up_cell (by decide), up_ne hq, all 50 (by decide)]
  refine ⟨fun c h0 hc => ?_, fun q => ?_, fun q => ?_, fun q => ?_, fun q => ?_, fun q => ?_, fun q hq => ?_, fun q => ?_, ⟨?_, ?_, ?_, ?_, ?_⟩, fun q hq => ?_, ?_, ?_⟩
  · rw [top c h0 (by omega), all c (by omega), aA c h0]
  · rw [top 51 (by decide) (by decide), cG 51 (by decide), cF' 51 (by decide), cE 51 (by decide), cD 51 (by decide), cC 51 (by decide) (by decide)]
    unfold bgB
    rw [rdc, aA 62 (by decide)]
  · rw [top 52 (by decide) (by decide), cG 52 (by decide), cF' 52 (by decide), cE 52 (by decide), cD 52 (by decide)]
    unfold bgC
    rw [cpy_cell (by decide), rdc, cB 63 (by decide), aA 63 (by decide)]
  · rw [top 53 (by decide) (by decide), cG 53 (by decide), cF' 53 (by decide), cE 53 (by decide), cD 53 (by decide)]
    unfold bgC
    rw [rdc, cpy_cell (by decide), cB 64 (by decide), aA 64 (by decide)]
  · rw [top 54 (by decide) (by decide), cG 54 (by decide), cF' 54 (by decide), cE 54 (by decide)]
    unfold bgD
    rw [rdc, cC 65 (by decide) (by decide), cB 65 (by decide), aA 65 (by decide)]
  · rw [top 55 (by decide) (by decide), cG 55 (by decide), cF' 55 (by decide)]
    unfold bgE
    rw [rdc, cD 66 (by decide), cC 66 (by decide) (by decide), cB 66 (by decide), aA 66 (by decide)]
  · rw [top 56 (by decide) (by decide), cG 56 (by decide)]
    unfold bgF
    rw [cpy_in hq, cE 68 (by decide), cD 68 (by decide), cC 68 (by decide) (by decide), cB 68 (by decide), aA 68 (by decide)]
  · rw [top 57 (by decide) (by decide)]
    unfold bgG
    rw [rdc, cF' 67 (by decide), cE 67 (by decide), cD 67 (by decide), cC 67 (by decide) (by decide), cB 67 (by decide), aA 67 (by decide)]
  · rw [f50 1 (by decide)]; unfold bgA; rw [up_ne (by decide), up_ne (by decide), up_ne (by decide), up_same]
  · rw [f50 2 (by decide)]; unfold bgA; rw [up_ne (by decide), up_ne (by decide), up_same]
  · rw [f50 3 (by decide)]; unfold bgA; rw [up_ne (by decide), up_same]
  · rw [f50 4 (by decide)]; unfold bgA; rw [up_same]
  · unfold bgH; rw [up_cell (by decide), up_cell (by decide), up_same]
  · rw [f50 q (by omega)]; unfold bgA; rw [up_ne (by omega), up_ne (by omega), up_ne (by omega), up_ne (by omega)]
  · unfold bgH; rw [up_ne (by decide), up_same]
  · unfold bgH; rw [up_same]
theorem sv_0 : ∀ t : Nat, t < 2 → iandI 0 (ishlI 1 (t : Int)) = 0 := by decide +kernel
theorem INV_load {h g3 : HP} {T : Nat} (H : INV h) (R : RI h) (z : rtE h 4 10 = 0) (L : LNR T (rtE h) g3) (F : FrD3 (ldH h) g3) : INV (bgH g3) ∧ RI (bgH g3) := by
  have t := H.2.2.2.1.1
  have t2 : 0 ≤ h 2 1 ∧ h 2 1 ≤ 1500 := t.2
  have rc : ∀ c, (c < 4 ∨ 18 < c) → rtE h c = h c := fun c hc => rtE_cell t2 R.1.1 R.1.2.1 R.1.2.2 hc
  have kp := rtE_keep t2 R.1.1 R.1.2.1 R.1.2.2
  have c0 := rt_c0 t2 R.1.1 R.1.2.1 R.1.2.2 z
  obtain ⟨d20, d21, d22, d23, d24, d25, d26, d28⟩ := ldH_cells (h := h)
  obtain ⟨b0, b51, b52, b53, b54, b55, b56, b57, ⟨bf1, bf2, bf3, bf4, bf15⟩, bfo, b600, b601⟩ := bg_cells (g := g3)
  have cl : ∀ c, c < 50 → bgH g3 c = ldH h c := fun c hc => (b0 c (by omega) (by omega)).trans (F.1 c (by omega) (by omega))
  obtain ⟨N, S, ⟨st1, st2⟩, Ch, Pc⟩ := L.2 z
  have r20 : ∀ q, rd (bgH g3 20) 32 q = rd (rtE h 6) 32 q := fun q => by rw [cl 20 (by decide)]; exact d20 q
  have r21 : rd (bgH g3 21) 4 = rd (rtE h 7) 4 := by rw [cl 21 (by decide)]; exact funext d21
  have r22 : rd (bgH g3 22) 4 = rd (rtE h 8) 4 := by rw [cl 22 (by decide)]; exact funext d22
  have r23 : rd (bgH g3 23) 32 = rd (rtE h 9) 32 := by rw [cl 23 (by decide)]; exact funext d23
  have r24 : rd (bgH g3 24) 32 = rd (rtE h 10) 32 := by rw [cl 24 (by decide)]; exact funext d24
  have r25 : rd (bgH g3 25) 6 = rd (rtE h 11) 6 := by rw [cl 25 (by decide)]; exact funext d25
  have r26 : rd (bgH g3 26) 540 = rd (rtE h 12) 540 := by rw [cl 26 (by decide)]; exact funext d26
  have r28 : ∀ q, rd (bgH g3 28) 132 q = rd (rtE h 14) 132 q := fun q => by rw [cl 28 (by decide)]; exact d28 q
  have n0 := N.1 0 (by decide)
  have n1 := N.1 1 (by decide)
  have n2 := N.1 2 (by decide)
  have n3 := N.1 3 (by decide)
  have PO : PatOK (rtE h 7) (rtE h 8) (rtE h 9) (rtE h 10) (rtE h 11) (rtE h 12) := ⟨⟨c0, n0.2⟩, n1, n2, n3, fun c x y => (Ch c x y).2, fun p x y => ⟨(Pc p x y).2.1, fun k k0 k1 => ((Pc p x y).2.2 k k0 k1).2⟩⟩
  have CIh : CI (bgH g3) := ⟨PatOK_cg r21 r22 r23 r24 r25 r26 PO, StOK_cg r28 st2⟩
  have h1 : ∀ q, bgH g3 1 q = ldH h 1 q := fun q => by rw [cl 1 (by decide)]
  have e10 : ldH h 1 10 = 0 := by unfold ldH; rw [up_ne (by decide), up_same]
  have e12 : ldH h 1 12 = 0 := by unfold ldH; rw [up_same]
  have e1o : ∀ q, q ≠ 10 → q ≠ 12 → ldH h 1 q = ldA h 1 q := fun q x y => by unfold ldH; rw [up_ne y, up_ne x, cpA_cell (by decide), copy_cells.1 1 (by decide)]
  have a1 : ∀ q, ldA h 1 q = if q = 14 then rtE h 4 11 else if q = 13 then rtE h 4 10 else h 1 q := fun q => by
    unfold ldA
    rw [up_at, up_at, up_cell (by decide), rc 1 (by decide)]
  have e21 : ldH h 2 1 = 0 := by
    unfold ldH
    rw [up_cell (by decide), up_cell (by decide), cpA_cell (by decide), copy_cells.1 2 (by decide)]
    unfold ldA
    rw [up_cell (by decide), up_cell (by decide), up_same]
  have u := H.1.2.2
  refine ⟨⟨⟨CIh, ⟨⟨?_, ?_, ?_, ?_⟩, fun c x y => ?_, fun p x y => ?_, ?_⟩, ?_⟩, ?_, fun t ht => ?_, ?_, ?_, fun i q hi hq => ?_⟩, ⟨?_, ?_⟩⟩
  · rw [bf1, r21]; exact S.1
  · rw [bf2, r21]; exact S.2.1
  · rw [bf3, r21]; exact S.2.2.1
  · rw [bf4, r21]; exact S.2.2.2
  · rw [r21] at y
    rw [b51, r22]
    have w := (Ch c x y).1
    refine ⟨w.1, fun r r0 r1 => ?_⟩
    rw [b52, b53, r23, r24]
    exact w.2 r r0 r1
  · rw [r21] at y
    rw [b54, r25]
    have w := Pc p x y
    refine ⟨w.1, fun k k0 k1 => ?_⟩
    exact PtC_cg (fun j _ _ => b55 _) (fun s _ _ => by unfold cF; rw [r26]) (w.2.2 k k0 k1).1
  · exact StC_cg b57 r28 st1
  · unfold undoOK at *
    rw [h1, h1, e10, e1o 11 (by decide) (by decide), a1, if_neg (by decide), if_neg (by decide)]
    exact ⟨⟨by decide, by decide⟩, u.2⟩
  · unfold PastC
    rw [h1, e10, bf15]
    exact ⟨rfl, fun j hj => absurd hj (by omega)⟩
  · have hz : bgH g3 60 t = 0 := by
      have c : t = 0 ∨ t = 1 := by omega
      rcases c with rfl | rfl
      · exact b600
      · exact b601
    rw [hz]
    refine ⟨Or.inl rfl, ⟨fun y => ?_, fun y => absurd y (by decide)⟩, fun y => absurd y (by decide)⟩
    unfold isSv at y
    rw [h1, e12, sv_0 t ht] at y
    exact absurd rfl y
  · have x17 : bgH g3 50 17 = 0 := (bfo 17 (by decide)).trans F.2.2.1
    unfold TextC
    rw [cl 2 (by decide), e21, x17]
    exact ⟨⟨rfl, by decide, by decide⟩, fun j hj => absurd hj (by omega)⟩
  · unfold FaultC
    rw [bfo 23 (by decide), bfo 24 (by decide), h1, h1, e1o 13 (by decide) (by decide), e1o 14 (by decide) (by decide), a1, a1, if_neg (by decide), if_pos rfl, if_pos rfl]
    exact ⟨SR_23 L.1, SR_24 L.1⟩
  · rw [r21] at hq
    rw [r20]
    have n := N.1 i hi
    have cf := capI_fs hi
    exact nmOK_cg (fun k hk => b56 _ (by omega)) (N.2 i q hi hq)
  · have c : ∀ c, 4 ≤ c → c ≤ 18 → bgH g3 c = rtE h c := fun c x y => (cl c (by omega)).trans (ldH_cell (by omega) (by omega) (by omega) (by omega))
    exact ⟨TKI_cg kp.1 (c 16 (by decide) (by decide)) (c 17 (by decide) (by decide)) (c 18 (by decide) (by decide)), rwB_cg kp.2.1 (c 8 (by decide) (by decide)), ptB_cg kp.2.2 (c 11 (by decide) (by decide))⟩
  · rw [bfo 22 (by decide)]
    exact L.1.1.1
