/-! ===== the model: width, mean, need ===== -/
theorem sS_bd {D : KD} {n k : Nat} {i : Int} (hK : KOK D n) (hk : k < n) (hw : why D k = 0) (i0 : 0 ≤ i) (i1 : i < kR D k) : 0 ≤ sS D k i ∧ sS D k i ≤ 49200 := by
  have h1 := hv_bd hK k (by omega)
  have h2 := hv_bd hK (k + 1) (by omega)
  by_cases hH : kH D k = -1
  · by_cases hs : shp D k = 0
    · rw [sS_even hH hs]; omega
    · have := (sS_btw hK hk hw hH hs i0 i1).2; omega
  · have kn := (hK k hk).2.2.2.2.2.2.1
    have rp := rpt_bd hK hk
    obtain ⟨-, -, -, n1, -, n2, -⟩ : kK D k = 1 ∧ (0 ≤ kH D k ∧ kH D k ≤ 3) ∧ (1 ≤ kW D k ∧ kW D k ≤ 36) ∧ (1 ≤ kN D k ∧ kN D k ≤ 8) ∧ kR D k % kN D k = 0 ∧ (∀ i, 0 ≤ i → i < kN D k → 1 ≤ kM D k i ∧ kM D k i ≤ 12) ∧ kM D k (kN D k - 1) = kW D k := by
      rcases kn with y | y
      · exact absurd y hH
      · exact y
    have t := tm_bd (x := i) (y := kN D k) i0 (by omega)
    have m := n2 _ t.1 t.2.1
    have b := mul_bd (a := rpt D k) (b := kM D k (i.tmod (kN D k))) (A := 4100) (B := 12) rp.1 rp.2 (by omega) m.2
    unfold sS
    rw [if_pos hH, if_neg (by omega)]
    omega
theorem sumN_bd {f : Nat → Int} {B : Int} : ∀ {m : Nat}, (∀ j, j < m → 0 ≤ f j ∧ f j ≤ B) → 0 ≤ sumN f m ∧ sumN f m ≤ (m : Int) * B
  | 0, _ => by unfold sumN; omega
  | m + 1, h => by
    have ih := sumN_bd (m := m) (fun j hj => h j (by omega))
    have hm := h m (by omega)
    unfold sumN
    rw [show ((m + 1 : Nat) : Int) = (m : Int) + 1 from rfl, Int.add_mul]
    omega
section MQ3
variable {M : List CT} {h : HP} {i j m s p c x r w : Int} {k n : Nat} {D : KD} {Y : Int}
theorem m_isColor : Ok 247 [vI i] (LL M) h (fun o Λ' h' => Λ' = LL M ∧ h' = h ∧ ∃ x, o = .inl (some (vI x)) ∧ bI x (0 ≤ i ∧ i ≤ 3)) := by
  refine ok_body B_X9_isColor rfl (fun X hX => ?_)
  refine hX 20 [] 0 _ _ _ _ _ _ ?_
  by_cases z : 0 ≤ i ∧ i ≤ 3
  · refine Ok_rt (isIn_t z) ?_
    exact And.intro (by decide) ⟨rfl, rfl, _, rfl, Or.inl ⟨z, rfl⟩⟩
  · refine Ok_rt (isIn_f z) ?_
    exact And.intro (by decide) ⟨rfl, rfl, _, rfl, Or.inr ⟨z, rfl⟩⟩
theorem m_needOf (hK : KOK D n) (hn : n ≤ 10) (hI : KnIs h D n) (hof : ∀ k : Nat, k < n → Ok 223 [vR 50, vI p, vI (k : Int), vI 1] (LL M) h (rt (some (vI (kC D k))) (LL M) h)) (hY : h 69 2 = Y) (hY1 : 0 ≤ Y) (hY2 : Y ≤ 99) :
    Ok 246 [vR 50, vI p, vI c] (LL M) h (rt (some (vL (sCol D c (md D n) 0 0 * Y))) (LL M) h) := by
  have msp := md_spec D n
  have i40 := hI.1
  refine ok_body B_X9_needOf rfl (fun X hX => ?_)
  have rowB : ∀ k : Nat, k < md D n → ∀ q : Nat, (q : Int) ≤ kR D k → 0 ≤ sumN (fun q => sS D k q) q ∧ sumN (fun q => sS D k q) q ≤ (q : Int) * 49200 := fun k hk q hq => sumN_bd (fun j hj => sS_bd hK (by omega) (msp.2.1 k hk) (by omega) (by omega))
  have inner : ∀ (k : Nat), k < md D n → kC D k = c → ∀ (m q : Nat) (a : Int), (q : Int) + m = kR D k → 0 ≤ a → a ≤ 20000000000 * (k : Int) →
      (X 74 [vR 50, vI p, vI c, vL (a + sO D k * Y), vU, vI (k : Int), vI (tp D k + kR D k)] [] (LL M) h 0 0) →
      X 23 [vR 50, vI p, vI c, vL (a + sumN (fun q => sS D k q) q * Y), vU, vI (k : Int), vI (tp D k + q)] [] (LL M) h 0 0 := by
    intro k hk hc m
    have rm := tp_room hK hn (show k < n by omega)
    have kR0 := (hK k (by omega)).2.2.2.1
    have a2 := hI.2.2.2.1 (k + 1) (by omega)
    have b2 : h 71 ((k : Int) + 1).toNat = tp D k + kR D k := by rw [show ((k : Int) + 1).toNat = k + 1 by omega]; exact a2
    induction m with
    | zero =>
      intro q a hq ha1 ha2 hgo
      refine hX 20 [74] 23 _ _ _ _ _ _ ?_
      refine And.intro ⟨by omega, by omega⟩ ?_
      refine And.intro ⟨by omega, by omega⟩ ?_
      rw [b2]
      refine And.intro (fun _ => ?_) (fun c34 => absurd c34 (by omega))
      have e : sumN (fun q => sS D k q) q = sO D k := by
        rw [← sO_sum hK (by omega) (msp.2.1 k hk), show (kR D k).toNat = q by omega]
      rw [e, show tp D k + (q : Int) = tp D k + kR D k by omega]
      exact hgo
    | succ m ih =>
      intro q a hq ha1 ha2 hgo
      have sb := sS_bd hK (show k < n by omega) (msp.2.1 k hk) (i := (q : Int)) (by omega) (by omega)
      have rb := rowB k hk q (by omega)
      have g := hI.2.2.2.2 k hk (q : Int) (by omega) (by omega)
      have m1 := mul_bd (a := sumN (fun q => sS D k q) q) (b := Y) (A := 150000000) (B := 99) rb.1 (by omega) hY1 hY2
      have m2 := mul_bd (a := sS D k q) (b := Y) (A := 49200) (B := 99) sb.1 sb.2 hY1 hY2
      have oc := hof k (by omega)
      rw [hc] at oc
      refine hX 40 [23, 74] 23 _ _ _ _ _ _ ?_
      refine And.intro ⟨by omega, by omega⟩ ?_
      refine And.intro ⟨by omega, by omega⟩ ?_
      rw [b2]
      refine And.intro (fun c34 => absurd c34 (by omega)) (fun c34 => ?_)
      refine Ok_rt oc ?_
      refine And.intro (fun c46 => absurd rfl c46) (fun _ => ?_)
      refine And.intro ⟨by omega, by omega⟩ ?_
      refine And.intro ⟨by omega, by omega⟩ ?_
      have hY' : h 69 (2 : Int).toNat = Y := hY
      rw [g, hY']
      refine And.intro ⟨by omega, by omega⟩ ?_
      refine And.intro ⟨by omega, by omega⟩ ?_
      refine And.intro ⟨by omega, by omega⟩ ?_
      have z := ih (q + 1) a (by omega) ha1 ha2 hgo
      have e : a + sumN (fun q => sS D k q) (q + 1) * Y = a + sumN (fun q => sS D k q) q * Y + sS D k q * Y := by
        show a + (sumN (fun q => sS D k q) q + sS D k q) * Y = _
        rw [Int.add_mul]; omega
      rw [e, show tp D k + ((q + 1 : Nat) : Int) = tp D k + q + 1 by omega] at z
      exact z
  have colS : ∀ k : Nat, sCol D c (k + 1) 0 0 = if kC D k = c then sCol D c k 0 0 + sO D k else sCol D c k 0 0 := by
    intro k
    rw [sCol_sum, sCol_sum]
    show 0 + (sumN (fun j => if kC D ((0 + j : Nat) : Int) = c then sO D (0 + j) else 0) k + (if kC D ((0 + k : Nat) : Int) = c then sO D (0 + k) else 0)) = _
    rw [Nat.zero_add]
    split <;> omega
  have sOb : ∀ k : Nat, k < md D n → 0 ≤ sO D k ∧ sO D k ≤ 150000000 := by
    intro k hk
    have kR0 := (hK k (by omega)).2.2.2.1
    have := rowB k hk (kR D k).toNat (by omega)
    rw [sO_sum hK (by omega) (msp.2.1 k hk)] at this
    omega
  have colB : ∀ k : Nat, k ≤ md D n → 0 ≤ sCol D c k 0 0 ∧ sCol D c k 0 0 ≤ 150000000 * (k : Int) := by
    intro k
    induction k with
    | zero => intro _; unfold sCol; omega
    | succ k ih =>
      intro hk
      have a := ih (by omega)
      have b := sOb k (by omega)
      rw [colS k]
      split <;> omega
  have outer : ∀ (m k : Nat) (j6 : PV), k + m = md D n → X 5 [vR 50, vI p, vI c, vL (sCol D c k 0 0 * Y), vU, vI (k : Int), j6] [] (LL M) h 0 0 := by
    intro m
    induction m with
    | zero =>
      intro k j6 hk
      have ek : k = md D n := by omega
      refine hX 20 [] 5 _ _ _ _ _ _ ?_
      refine And.intro (fun c11 => ?_) (fun c11 => absurd c11 (by omega))
      exact rt_mk (by rw [ek]) rfl
    | succ m ih =>
      intro k j6 hk
      have hk1 : k < md D n := by omega
      have rm := tp_room hK hn (show k < n by omega)
      have kR0 := (hK k (by omega)).2.2.2.1
      have a1 := hI.2.2.2.1 k (by omega)
      have b1 : h 71 (k : Int).toNat = tp D k := by rw [Int.toNat_natCast]; exact a1
      have a2 := hI.2.2.2.1 (k + 1) (by omega)
      have b2 : h 71 ((k : Int) + 1).toNat = tp D k + kR D k := by rw [show ((k : Int) + 1).toNat = k + 1 by omega]; exact a2
      have cb := colB k (by omega)
      have m1 := mul_bd (a := sCol D c k 0 0) (b := Y) (A := 150000000 * (k : Int)) (B := 99) cb.1 cb.2 hY1 hY2
      have nxt : ∀ (v : Int) (j6 : PV), v = sCol D c (k + 1) 0 0 * Y → X 74 [vR 50, vI p, vI c, vL v, vU, vI (k : Int), j6] [] (LL M) h 0 0 := by
        intro v j6 hv1
        subst hv1
        refine hX 20 [5] 74 _ _ _ _ _ _ ?_
        refine And.intro ⟨by omega, by omega⟩ ?_
        exact ih (k + 1) j6 (by omega)
      refine hX 20 [23] 5 _ _ _ _ _ _ ?_
      refine And.intro (fun c11 => absurd c11 (by omega)) (fun c11 => ?_)
      refine And.intro ⟨by omega, by omega⟩ ?_
      rw [b1]
      show X 23 [_, _, _, _, _, _, _] _ _ _ _ _
      by_cases hc : kC D k = c
      · have z := inner k hk1 hc (kR D k).toNat 0 (sCol D c k 0 0 * Y) (by omega) (by omega) (by omega) (nxt _ _ (by rw [colS k, if_pos hc, Int.add_mul]))
        have e0 : sCol D c k 0 0 * Y + sumN (fun q => sS D k q) 0 * Y = sCol D c k 0 0 * Y := by show _ + 0 * Y = _; omega
        rw [e0, show tp D k + ((0 : Nat) : Int) = tp D k by omega] at z
        exact z
      · refine hX 40 [74] 23 _ _ _ _ _ _ ?_
        refine And.intro ⟨by omega, by omega⟩ ?_
        refine And.intro ⟨by omega, by omega⟩ ?_
        rw [b2]
        refine And.intro (fun c34 => nxt _ _ (by rw [colS k, if_neg hc])) (fun c34 => ?_)
        refine Ok_rt (hof k (by omega)) ?_
        refine And.intro (fun c46 => nxt _ _ (by rw [colS k, if_neg hc])) (fun c46 => absurd c46 hc)
  refine hX 20 [2, 5] 0 _ _ _ _ _ _ ?_
  show X 2 [_, _, _, _, _, _, _] _ _ _ _ _
  refine hX 20 [5] 2 _ _ _ _ _ _ ?_
  have z := outer (md D n) 0 vU (by omega)
  have e0 : sCol D c 0 0 0 * Y = 0 := by show 0 * Y = 0; omega
  rw [e0] at z
  exact z
theorem of_col (hC : CI h) (hM : Cpl h) {h' : HP} (f : FrM h h') (hp : isPc h p) (hk : k < gN h p) : Ok 223 [vR 50, vI p, vI (k : Int), vI 1] (LL M) h' (rt (some (vI (kC (gD h s p) k))) (LL M) h') := by
  have hk1 : isPa h p k := by unfold isPa gN at *; omega
  have oh := m_of (M := M) (Cpl_M hM f) (CI_M hC f) (p := p) (k := (k : Int)) (w := 1) (by unfold isPc; rw [f.1 21 (by decide) (by decide)]; exact hp) (by unfold isPa; rw [f.1 25 (by decide) (by decide)]; exact hk1) (by decide)
  have pm := (((Cpl_M hM f).2.2.1 p hp.1 (by rw [f.1 21 (by decide) (by decide)]; exact hp.2)).2 k hk1.1 (by rw [f.1 25 (by decide) (by decide)]; exact hk1.2)).1.2.1
  rw [pm, f.1 26 (by decide) (by decide)] at oh
  exact oh
theorem m_need (hC : CI h) (hM : Cpl h) (hs : isSz h s) (hp : isPc h p) (hc : 0 ≤ c ∧ c ≤ 3) : Ok 248 [vR 50, vI s, vI p, vI c] (LL M) h (vaP M h (vL (nCol h s p c))) := by
  have C0 := CI_0 (j := 0) (v := 0) hC
  have M0 := Cpl_0 (v := 0) hM
  have kk := KOK_h hC hs hp
  refine ok_body B_X9_need rfl (fun X hX => ?_)
  refine hX 60 [27] 0 _ _ _ _ _ _ ?_
  refine Ok_mono (fun o' Λ' h' hpost => ?_) (m_isSize (M := M) (i := s) C0 M0)
  obtain ⟨rfl, rfl, x, rfl, hb⟩ := hpost
  rcases hb with ⟨-, rfl⟩ | ⟨hb, -⟩
  · refine And.intro (fun c => absurd c (by decide)) (fun _ => ?_)
    refine Ok_mono (fun o' Λ' h' hpost => ?_) (m_isPiece (M := M) (i := p) C0 M0)
    obtain ⟨rfl, rfl, x, rfl, hb⟩ := hpost
    rcases hb with ⟨-, rfl⟩ | ⟨hb, -⟩
    · refine And.intro (fun c => absurd c (by decide)) (fun _ => ?_)
      refine hX 60 [] 27 _ _ _ _ _ _ ?_
      refine Ok_rt (mayT (by decide) up_same) ?_
      refine And.intro (fun c => absurd c (by decide)) (fun _ => ?_)
      refine Ok_mono (fun o' Λ' h' hpost => ?_) (m_isColor (M := M) (i := c))
      obtain ⟨rfl, rfl, x, rfl, hb⟩ := hpost
      rcases hb with ⟨-, rfl⟩ | ⟨hb, -⟩
      · refine Ok_rt (mayT (by decide) up_same) ?_
        refine And.intro (fun c => absurd c (by decide)) (fun _ => ?_)
        refine Ok_mono (fun o' Λ' h' hpost => ?_) (m_mayKnit0 (M := M) hC hM hs hp)
        obtain ⟨rfl, rfl, f, e0, e69, hI⟩ := hpost
        refine And.intro (fun _ => ?_) (fun c => absurd c (by decide))
        have y := e69.1.2.2.1
        rw [rd_in (by decide) (by decide)] at y
        have yb := hC.2.2.2.1
        refine Ok_rt (m_needOf (M := M) (c := c) (p := p) kk.1 kk.2.2 hI (fun k hk => of_col hC hM f hp hk) y (by omega) (by omega)) ?_
        exact ⟨rfl, rfl, f, e0⟩
      · exact absurd hc hb
    · exact absurd (isPc_0.mpr hp) hb
  · exact absurd (isSz_0.mpr hs) hb
theorem m_need_x (hC : CI h) (hM : Cpl h) (hx : ¬ (isSz h s ∧ isPc h p)) : Ok 248 [vR 50, vI s, vI p, vI c] (LL M) h (fun o Λ' h' => o = .inl (some (vL 0)) ∧ Λ' = LL M ∧ FrM h h' ∧ h' 50 0 = 1) := by
  have C0 := CI_0 (j := 0) (v := 0) hC
  have M0 := Cpl_0 (v := 0) hM
  have fin : ∀ h', h' = up (up h 50 0 0) 50 0 1 → FrM h h' ∧ h' 50 0 = 1 := fun h' e => by rw [e, up_up]; exact ⟨FrM_0, up_same⟩
  refine ok_body B_X9_need rfl (fun X hX => ?_)
  have bad : X 27 [vR 50, vI s, vI p, vI c] [vI 0, vR 50] (LL M) (up h 50 0 0) 0 0 := by
    refine hX 60 [] 27 _ _ _ _ _ _ ?_
    refine Ok_rt (mayF (by decide) up_same) ?_
    refine And.intro (fun _ => ?_) (fun c => absurd rfl c)
    exact ⟨rfl, rfl, fin _ rfl⟩
  refine hX 60 [27] 0 _ _ _ _ _ _ ?_
  refine Ok_mono (fun o' Λ' h' hpost => ?_) (m_isSize (M := M) (i := s) C0 M0)
  obtain ⟨rfl, rfl, x, rfl, hb⟩ := hpost
  rcases hb with ⟨h1, rfl⟩ | ⟨-, rfl⟩
  · refine And.intro (fun c => absurd c (by decide)) (fun _ => ?_)
    refine Ok_mono (fun o' Λ' h' hpost => ?_) (m_isPiece (M := M) (i := p) C0 M0)
    obtain ⟨rfl, rfl, x, rfl, hb⟩ := hpost
    rcases hb with ⟨h2, rfl⟩ | ⟨-, rfl⟩
    · exact absurd ⟨isSz_0.mp h1, isPc_0.mp h2⟩ hx
    · exact And.intro (fun _ => bad) (fun c => absurd rfl c)
  · exact And.intro (fun _ => bad) (fun c => absurd rfl c)
theorem m_need_c (hC : CI h) (hM : Cpl h) (hs : isSz h s) (hp : isPc h p) (hc : ¬ (0 ≤ c ∧ c ≤ 3)) : Ok 248 [vR 50, vI s, vI p, vI c] (LL M) h (fun o Λ' h' => o = .inl (some (vL 0)) ∧ Λ' = LL M ∧ FrM h h' ∧ h' 50 0 = 2) := by
  have C0 := CI_0 (j := 0) (v := 0) hC
  have M0 := Cpl_0 (v := 0) hM
  have fin : ∀ h', h' = up (up h 50 0 0) 50 0 2 → FrM h h' ∧ h' 50 0 = 2 := fun h' e => by rw [e, up_up]; exact ⟨FrM_0, up_same⟩
  refine ok_body B_X9_need rfl (fun X hX => ?_)
  refine hX 60 [27] 0 _ _ _ _ _ _ ?_
  refine Ok_mono (fun o' Λ' h' hpost => ?_) (m_isSize (M := M) (i := s) C0 M0)
  obtain ⟨rfl, rfl, x, rfl, hb⟩ := hpost
  rcases hb with ⟨-, rfl⟩ | ⟨hb, -⟩
  · refine And.intro (fun c => absurd c (by decide)) (fun _ => ?_)
    refine Ok_mono (fun o' Λ' h' hpost => ?_) (m_isPiece (M := M) (i := p) C0 M0)
    obtain ⟨rfl, rfl, x, rfl, hb⟩ := hpost
    rcases hb with ⟨-, rfl⟩ | ⟨hb, -⟩
    · refine And.intro (fun c => absurd c (by decide)) (fun _ => ?_)
      refine hX 60 [] 27 _ _ _ _ _ _ ?_
      refine Ok_rt (mayT (by decide) up_same) ?_
      refine And.intro (fun c => absurd c (by decide)) (fun _ => ?_)
      refine Ok_mono (fun o' Λ' h' hpost => ?_) (m_isColor (M := M) (i := c))
      obtain ⟨rfl, rfl, x, rfl, hb⟩ := hpost
      rcases hb with ⟨hb, -⟩ | ⟨-, rfl⟩
      · exact absurd hb hc
      · refine Ok_rt (mayF (by decide) up_same) ?_
        refine And.intro (fun _ => ?_) (fun c => absurd rfl c)
        exact ⟨rfl, rfl, fin _ rfl⟩
    · exact absurd (isPc_0.mpr hp) hb
  · exact absurd (isSz_0.mpr hs) hb
theorem m_width (hC : CI h) (hM : Cpl h) (hs : isSz h s) (hp : isPc h p) (hk : k < mdN h s p) (h1 : tp (gD h s p) k ≤ r) (h2 : r < tp (gD h s p) (k + 1)) (f1 : vf_n32 (FP.fmul (FP.i2f (Int32.ofInt (sS (gD h s p) k (r - tp (gD h s p) k)))) 1120403456)) (f2 : vf_n32 (wdF (sS (gD h s p) k (r - tp (gD h s p) k)) (rd (h 28) 132 0))) :
    Ok 244 [vR 50, vI s, vI p, vI r] (LL M) h (vaP M h (vF (wdF (sS (gD h s p) k (r - tp (gD h s p) k)) (rd (h 28) 132 0)))) := by
  have hr := rw_in hC hs hp hk h1 h2
  have rb := rwN_bd hC hs hp
  refine ok_body B_X9_width_ rfl (fun X hX => ?_)
  refine hX 60 [] 0 _ _ _ _ _ _ ?_
  refine Ok_mono (fun o' Λ' h' hpost => ?_) (m_hasRow0 (M := M) hC hM hs hp hr)
  obtain ⟨rfl, rfl, f, e0, e69, hI⟩ := hpost
  have et : tp (gD h s p) (k + 1) = tp (gD h s p) k + kR (gD h s p) k := rfl
  have g := hI.2.2.2.2 k hk (r - tp (gD h s p) k) (by omega) (by omega)
  rw [show tp (gD h s p) k + (r - tp (gD h s p) k) = r by omega] at g
  have y := hM.2.2.2.1.1
  rw [rd_in (by decide) (by decide), ← f.1 57 (by decide) (by decide)] at y
  have y' : h' 57 (0 : Int).toNat = rd (h 28) 132 0 := y
  refine And.intro (fun c => absurd c (by decide)) (fun _ => ?_)
  refine And.intro ⟨by omega, by omega⟩ ?_
  rw [g]
  refine And.intro f1 ?_
  refine And.intro ⟨by omega, by omega⟩ ?_
  rw [y']
  refine And.intro f2 ?_
  exact ⟨rfl, rfl, f, e0⟩
theorem m_width_x (hC : CI h) (hM : Cpl h) (hx : ¬ ((isSz h s ∧ isPc h p) ∧ 0 ≤ r ∧ r < rwN h s p)) : Ok 244 [vR 50, vI s, vI p, vI r] (LL M) h (fun o Λ' h' => o = .inl (some (vF FP.fconst0)) ∧ Λ' = LL M ∧ FrM h h' ∧ h' 50 0 = 1) := by
  refine ok_body B_X9_width_ rfl (fun X hX => ?_)
  refine hX 60 [] 0 _ _ _ _ _ _ ?_
  refine Ok_mono (fun o' Λ' h' hpost => ?_) (m_hasRow0_x (M := M) hC hM hx)
  obtain ⟨rfl, rfl, f, e0⟩ := hpost
  refine And.intro (fun _ => ?_) (fun c => absurd rfl c)
  exact ⟨rfl, rfl, f, e0⟩
theorem m_mean (hC : CI h) (hM : Cpl h) (hs : isSz h s) (hp : isPc h p) (f1 : vf_n64 (mnD (sAll (gD h s p) (mdN h s p) 0 0) (rwN h s p))) : Ok 245 [vR 50, vI s, vI p] (LL M) h (vaP M h (vD (mnD (sAll (gD h s p) (mdN h s p) 0 0) (rwN h s p)))) := by
  have rb := rwN_bd hC hs hp
  have kk := KOK_h hC hs hp
  have msp := md_spec (gD h s p) (gN h p)
  refine ok_body B_X9_mean rfl (fun X hX => ?_)
  refine hX 60 [18, 21] 0 _ _ _ _ _ _ ?_
  refine Ok_mono (fun o' Λ' h' hpost => ?_) (m_mayKnit0 (M := M) hC hM hs hp)
  obtain ⟨rfl, rfl, f, e0, e69, hI⟩ := hpost
  have i2 : h' 50 39 = rwN h s p := hI.2.1
  have rs := rows_sum (g := h' 70) kk.1 (md (gD h s p) (gN h p)) msp.1 msp.2.1 hI.2.2.2.2
  have rowB : ∀ j : Nat, (j : Int) < rwN h s p → 0 ≤ h' 70 j ∧ h' 70 j ≤ 49200 := by
    intro j hj
    obtain ⟨k, k1, k2, k3⟩ := row_part (md (gD h s p) (gN h p)) (j : Int) (by omega) hj
    have et : tp (gD h s p) (k + 1) = tp (gD h s p) k + kR (gD h s p) k := rfl
    have g := hI.2.2.2.2 k k1 ((j : Int) - tp (gD h s p) k) (by omega) (by omega)
    have sb := sS_bd kk.1 (show k < gN h p by omega) (msp.2.1 k k1) (i := (j : Int) - tp (gD h s p) k) (by omega) (by omega)
    rw [show (tp (gD h s p) k + ((j : Int) - tp (gD h s p) k)).toNat = j by omega] at g
    rw [g]; exact sb
  have loop : ∀ (m q : Nat), (q : Int) + m = rwN h s p → X 21 [vR 50, vI s, vI p, vL (sumN (h' 70) q), vU, vI (q : Int)] [] (LL M) h' 0 0 := by
    intro m
    induction m with
    | zero =>
      intro q hq
      have e : sumN (h' 70) q = sAll (gD h s p) (mdN h s p) 0 0 := by
        have : q = (tp (gD h s p) (md (gD h s p) (gN h p))).toNat := by have : rwN h s p = tp (gD h s p) (md (gD h s p) (gN h p)) := rfl; omega
        rw [this]; exact rs
      refine hX 20 [] 21 _ _ _ _ _ _ ?_
      refine And.intro (fun c27 => ?_) (fun c27 => absurd c27 (by omega))
      rw [e]
      have fz : vf_n64 (FP.ddiv (FP.l2d (Int64.ofInt (sAll (gD h s p) (mdN h s p) 0 0))) (FP.i2d (Int32.ofInt (h' 50 39)))) := by rw [i2]; exact f1
      refine And.intro fz ⟨?_, rfl, f, e0⟩
      show Sum.inl (some (vD (FP.ddiv (FP.l2d (Int64.ofInt (sAll (gD h s p) (mdN h s p) 0 0))) (FP.i2d (Int32.ofInt (h' 50 39)))))) = _
      rw [i2]
      rfl
    | succ m ih =>
      intro q hq
      have sb := sumN_bd (f := h' 70) (B := 49200) (m := q) (fun j hj => rowB j (by omega))
      have qb := rowB q (by omega)
      refine hX 20 [21] 21 _ _ _ _ _ _ ?_
      refine And.intro (fun c27 => absurd c27 (by omega)) (fun c27 => ?_)
      refine And.intro ⟨by omega, by omega⟩ ?_
      rw [show (q : Int).toNat = q from Int.toNat_natCast q]
      refine And.intro (show inRL (sumN (h' 70) q + h' 70 q) from ⟨by omega, by omega⟩) ?_
      refine And.intro ⟨by omega, by omega⟩ ?_
      exact ih (q + 1) (by omega)
  refine And.intro (fun _ => ?_) (fun c => absurd c (by decide))
  show X 18 [_, _, _, _, _, _] _ _ _ _ _
  refine hX 20 [21] 18 _ _ _ _ _ _ ?_
  exact loop (rwN h s p).toNat 0 (by omega)
theorem m_mean_x (hC : CI h) (hM : Cpl h) (hx : ¬ (isSz h s ∧ isPc h p)) : Ok 245 [vR 50, vI s, vI p] (LL M) h (fun o Λ' h' => o = .inl (some (vD FP.dconst0)) ∧ Λ' = LL M ∧ FrM h h' ∧ h' 50 0 = 1) := by
  refine ok_body B_X9_mean rfl (fun X hX => ?_)
  refine hX 60 [18] 0 _ _ _ _ _ _ ?_
  refine Ok_mono (fun o' Λ' h' hpost => ?_) (m_mayKnit0_x (M := M) hC hM hx)
  obtain ⟨rfl, rfl, f, e0⟩ := hpost
  refine And.intro (fun c => absurd rfl c) (fun _ => ?_)
  exact ⟨rfl, rfl, f, e0⟩
end MQ3
