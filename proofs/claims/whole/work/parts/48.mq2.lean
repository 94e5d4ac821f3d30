/-! ===== the model: extreme, shaping ===== -/
section MQ2
variable {M : List CT} {h : HP} {i j m s p c x r w : Int} {k : Nat}
theorem m_extreme (hC : CI h) (hM : Cpl h) (hs : isSz h s) (hp : isPc h p) : Ok 242 [vR 50, vI s, vI p, vI i] (LL M) h (vaP M h (vI (if i = 0 then gMn (gD h s p) (mdN h s p - 1) 1 (hv (gD h s p) (0 + 1)) else gMx (gD h s p) (mdN h s p) 0 0))) := by
  have rb := rwN_bd hC hs hp
  have kk := KOK_h hC hs hp
  have mp := md_pos hC hs hp
  have msp := md_spec (gD h s p) (gN h p)
  refine ok_body B_X9_extreme rfl (fun X hX => ?_)
  refine hX 60 [24, 27] 0 _ _ _ _ _ _ ?_
  refine Ok_mono (fun o' Λ' h' hpost => ?_) (m_mayKnit0 (M := M) hC hM hs hp)
  obtain ⟨rfl, rfl, f, e0, e69, hI⟩ := hpost
  have i2 : h' 50 39 = rwN h s p := hI.2.1
  obtain ⟨g, hg⟩ : ∃ g : Int → Int, g = fun r => h' 70 r.toNat := ⟨_, rfl⟩
  have hro : rowOf (gD h s p) (md (gD h s p) (gN h p)) g := fun j hj i i0 i1 => by rw [hg]; exact hI.2.2.2.2 j hj i i0 i1
  have loop : ∀ (m : Nat) (q b : Int), rwN h s p - q = (m : Int) → 1 ≤ q → (∃ r, 0 ≤ r ∧ r < q ∧ g r = b) → (i ≠ 0 → ∀ r, 0 ≤ r → r < q → g r ≤ b) → (i = 0 → ∀ r, 0 ≤ r → r < q → b ≤ g r) →
      X 27 [vR 50, vI s, vI p, vI i, vI b, vI q] [] (LL M) h' 0 0 := by
    intro m
    induction m with
    | zero =>
      intro q b hq h1 hx1 hx2 hx3
      have eq : q = tp (gD h s p) (md (gD h s p) (gN h p)) := by have : rwN h s p = tp (gD h s p) (md (gD h s p) (gN h p)) := rfl; omega
      refine hX 20 [] 27 _ _ _ _ _ _ ?_
      refine And.intro (fun c33 => ?_) (fun c33 => absurd c33 (by omega))
      refine ⟨?_, rfl, f, e0⟩
      rw [eq] at hx1 hx2 hx3
      by_cases z : i = 0
      · rw [if_pos z, gMn_rows kk.1 msp.1 mp msp.2.1 hro hx1 (hx3 z)]; rfl
      · rw [if_neg z, gMx_rows kk.1 msp.1 mp msp.2.1 hro hx1 (hx2 z)]; rfl
    | succ m ih =>
      intro q b hq h1 hx1 hx2 hx3
      have nxt : ∀ v, (v = b ∧ (i ≠ 0 → g q ≤ b) ∧ (i = 0 → b ≤ g q)) ∨ (v = g q ∧ (i ≠ 0 → b ≤ g q) ∧ (i = 0 → g q ≤ b)) → X 79 [vR 50, vI s, vI p, vI i, vI b, vI q] [vI v] (LL M) h' 0 0 := by
        intro v hv1
        refine hX 20 [81] 79 _ _ _ _ _ _ ?_
        show X 81 [_, _, _, _, _, _] _ _ _ _ _
        refine hX 20 [27] 81 _ _ _ _ _ _ ?_
        refine And.intro ⟨by omega, by omega⟩ ?_
        refine ih (q + 1) v (by omega) (by omega) ?_ (fun z r r0 r1 => ?_) (fun z r r0 r1 => ?_)
        · rcases hv1 with y | y
          · obtain ⟨r, r0, r1, r2⟩ := hx1
            exact ⟨r, r0, by omega, by rw [r2, y.1]⟩
          · exact ⟨q, by omega, by omega, y.1.symm⟩
        · by_cases e : r = q
          · subst e
            rcases hv1 with y | y
            · rw [y.1]; exact y.2.1 z
            · rw [y.1]; exact Int.le_refl _
          · have := hx2 z r r0 (by omega)
            rcases hv1 with y | y
            · rw [y.1]; exact this
            · rw [y.1]; exact Int.le_trans this (y.2.1 z)
        · by_cases e : r = q
          · subst e
            rcases hv1 with y | y
            · rw [y.1]; exact y.2.2 z
            · rw [y.1]; exact Int.le_refl _
          · have := hx3 z r r0 (by omega)
            rcases hv1 with y | y
            · rw [y.1]; exact this
            · rw [y.1]; exact Int.le_trans (y.2.2 z) this
      have gq : h' 70 q.toNat = g q := by rw [hg]
      have take : (i ≠ 0 → b ≤ g q) → (i = 0 → g q ≤ b) → X 67 [vR 50, vI s, vI p, vI i, vI b, vI q] [] (LL M) h' 0 0 := by
        intro u1 u2
        refine hX 20 [79] 67 _ _ _ _ _ _ ?_
        refine And.intro ⟨by omega, by omega⟩ ?_
        rw [gq]
        exact nxt _ (Or.inr ⟨rfl, u1, u2⟩)
      have leave : (i ≠ 0 → g q ≤ b) → (i = 0 → b ≤ g q) → X 77 [vR 50, vI s, vI p, vI i, vI b, vI q] [] (LL M) h' 0 0 := by
        intro u1 u2
        refine hX 20 [79] 77 _ _ _ _ _ _ ?_
        exact nxt _ (Or.inl ⟨rfl, u1, u2⟩)
      refine hX 30 [67, 77] 27 _ _ _ _ _ _ ?_
      refine And.intro (fun c33 => absurd c33 (by omega)) (fun c33 => ?_)
      refine And.intro (fun c37 => ?_) (fun c37 => ?_)
      · refine And.intro ⟨by omega, by omega⟩ ?_
        rw [gq]
        refine And.intro (fun c64 => ?_) (fun c64 => ?_)
        · exact leave (fun z => absurd c37 z) (fun _ => by omega)
        · exact take (fun z => absurd c37 z) (fun _ => by omega)
      · refine And.intro ⟨by omega, by omega⟩ ?_
        rw [gq]
        refine And.intro (fun c49 => ?_) (fun c49 => ?_)
        · exact leave (fun _ => by omega) (fun z => absurd z c37)
        · exact take (fun _ => by omega) (fun z => absurd z c37)
  refine And.intro (fun _ => ?_) (fun c => absurd c (by decide))
  refine And.intro ⟨by omega, by omega⟩ ?_
  have g0 : h' 70 (0 : Int).toNat = g 0 := by rw [hg]
  rw [g0]
  show X 24 [_, _, _, _, _, _] _ _ _ _ _
  refine hX 20 [27] 24 _ _ _ _ _ _ ?_
  refine loop (rwN h s p - 1).toNat 1 _ (by omega) (by omega) ⟨0, by omega, by omega, rfl⟩ (fun _ r r0 r1 => ?_) (fun _ r r0 r1 => ?_)
  · rw [show r = 0 by omega]; exact Int.le_refl _
  · rw [show r = 0 by omega]; exact Int.le_refl _
theorem m_extreme_x (hC : CI h) (hM : Cpl h) (hx : ¬ (isSz h s ∧ isPc h p)) : Ok 242 [vR 50, vI s, vI p, vI i] (LL M) h (thP M h 0 1) := by
  refine ok_body B_X9_extreme rfl (fun X hX => ?_)
  refine hX 60 [24] 0 _ _ _ _ _ _ ?_
  refine Ok_mono (fun o' Λ' h' hpost => ?_) (m_mayKnit0_x (M := M) hC hM hx)
  obtain ⟨rfl, rfl, f, e0⟩ := hpost
  refine And.intro (fun c => absurd rfl c) (fun _ => ?_)
  exact ⟨rfl, rfl, f, e0⟩
/-- the stitches behind q rows of a shape -/
def vl (D : KD) (k : Nat) (q : Int) : Int := if hv D k < hv D (k + 1) then hv D k + kP D k * dnF (shp D k) (kR D k) q else hv D k - kP D k * dnF (shp D k) (kR D k) q
theorem sS_vl {D : KD} {n : Nat} {q : Int} (hK : KOK D n) (hk : k < n) (hw : why D k = 0) (hkd : kK D k = 2) (q0 : 0 ≤ q) (q1 : q < kR D k) : sS D k q = vl D k (q + 1) := by
  have kk := hK k hk
  have p1 := kk.2.2.2.2.2.2.2.1 hkd
  have hH : kH D k = -1 := by
    rcases kk.2.2.2.2.2.2.1 with z | z
    · exact z
    · have := z.1; omega
  have w := why0_shape hkd p1.1 hH hw
  have a := ab_shp hkd p1.1 w.1
  unfold vl
  by_cases z : shp D k = 0
  · rw [sS_even hH z]
    rw [z, Int.mul_zero] at a
    have a0 := ab_0 a
    have e : dnF (shp D k) (kR D k) (q + 1) = 0 := by unfold dnF; rw [if_pos z]
    rw [e, Int.mul_zero]
    split <;> omega
  · have b := shp_bd hK hk
    unfold sS
    rw [if_neg (fun y => y hH), if_neg z, up_dn (by omega) w.2 q0]
theorem vl_0 {D : KD} (hn : 0 ≤ shp D k) (hR : shp D k ≤ kR D k) : vl D k 0 = hv D k := by
  unfold vl
  rw [dn_0 hn hR, Int.mul_zero]
  split <;> omega
theorem last_row {D : KD} {n e : Nat} {f : Int → Int} (hK : KOK D n) (he : e ≤ n) (hw : ∀ j, j < e → why D j = 0) (hf : rowOf D e f) : ∀ j : Nat, j < e → f (tp D (j + 1) - 1) = hv D (j + 1)
  | 0, hj => by
    have r : kR D (0 : Nat) = 1 := (hK 0 (by omega)).2.2.2.2.1 ((hK 0 (by omega)).2.1.mpr rfl)
    have l := sS_last hK (k := 0) (by omega) (hw 0 hj) (by omega)
    have g := hf 0 hj (kR D (0 : Nat) - 1) (by omega) (by omega)
    have et : tp D (0 + 1) = tp D 0 + kR D (0 : Nat) := rfl
    rw [et, show tp D 0 + kR D (0 : Nat) - 1 = tp D 0 + (kR D (0 : Nat) - 1) by omega, g]
    exact l
  | j + 1, hj => by
    have et : tp D (j + 1 + 1) = tp D (j + 1) + kR D (j + 1 : Nat) := rfl
    have r := (hK (j + 1) (by omega)).2.2.2.1
    by_cases z : kR D (j + 1 : Nat) = 0
    · rw [et, z, Int.add_zero, last_row hK he hw hf j (by omega), hv_R0 hK (k := j + 1) (by omega) (hw _ hj) z]
    · have l := sS_last hK (k := j + 1) (by omega) (hw _ hj) (by omega)
      have g := hf (j + 1) hj (kR D (j + 1 : Nat) - 1) (by omega) (by omega)
      rw [et, show tp D (j + 1) + kR D (j + 1 : Nat) - 1 = tp D (j + 1) + (kR D (j + 1 : Nat) - 1) by omega, g]
      exact l
theorem m_shaping (hC : CI h) (hM : Cpl h) (hs : isSz h s) (hp : isPc h p) (hk : isPa h p k) (hm : k < mdN h s p) (hir : inR i) : Ok 243 [vR 50, vI s, vI p, vI (k : Int), vI i] (LL M) h
    (fun o Λ' h' => Λ' = LL M ∧ FrM h h' ∧ (((0 ≤ i ∧ i < shp (gD h s p) k) ∧ o = .inl (some (vI (tp (gD h s p) k + ((i + 1) * kR (gD h s p) k).tdiv (shp (gD h s p) k) - 1))) ∧ h' 50 0 = 0) ∨ (¬ (0 ≤ i ∧ i < shp (gD h s p) k) ∧ o = .inl (some (vI 0)) ∧ h' 50 0 = 3))) := by
  have kk := KOK_h hC hs hp
  have msp := md_spec (gD h s p) (gN h p)
  have hm1 : k < md (gD h s p) (gN h p) := hm
  have hw := msp.2.1 k hm1
  have hkn : k < gN h p := by omega
  have kd := kk.1 k hkn
  have rm := tp_room kk.1 kk.2.2 hkn
  have sb := shp_bd kk.1 hkn
  have et : tp (gD h s p) (k + 1) = tp (gD h s p) k + kR (gD h s p) k := rfl
  have e26 : ∀ h', FrM h h' → cF (h' 26) p k 0 = kK (gD h s p) k := fun h' f => by rw [f.1 26 (by decide) (by decide)]; rfl
  have kR0 := kd.2.2.2.1
  refine ok_body B_X9_shaping rfl (fun X hX => ?_)
  refine hX 60 [21, 29] 0 _ _ _ _ _ _ ?_
  refine Ok_mono (fun o' Λ' h' hpost => ?_) (m_mayAsk0 (M := M) hC hM hs hp hk (by omega))
  obtain ⟨rfl, rfl, f, e0, e69, hI⟩ := hpost
  have a1 := hI.2.2.2.1 k (by omega)
  have a2 := hI.2.2.2.1 (k + 1) (by omega)
  have b1 : h' 71 (k : Int).toNat = tp (gD h s p) k := by rw [Int.toNat_natCast]; exact a1
  have b2 : h' 71 ((k : Int) + 1).toNat = tp (gD h s p) (k + 1) := by rw [show ((k : Int) + 1).toNat = k + 1 by omega]; exact a2
  have k10 : (k : Int) ≤ 9 := by omega
  have oh := m_of (M := M) (Cpl_M hM f) (CI_M hC f) (p := p) (k := (k : Int)) (w := 0) (by unfold isPc; rw [f.1 21 (by decide) (by decide)]; exact hp) (by unfold isPa; rw [f.1 25 (by decide) (by decide)]; exact hk) (by decide)
  have pm := (((Cpl_M hM f).2.2.1 p hp.1 (by rw [f.1 21 (by decide) (by decide)]; exact hp.2)).2 k hk.1 (by rw [f.1 25 (by decide) (by decide)]; exact hk.2)).1.1
  rw [pm, e26 h' f] at oh
  obtain ⟨g, hg⟩ : ∃ g : Int → Int, g = fun r => h' 70 r.toNat := ⟨_, rfl⟩
  have hro : rowOf (gD h s p) (md (gD h s p) (gN h p)) g := fun j hj i i0 i1 => by rw [hg]; exact hI.2.2.2.2 j hj i i0 i1
  have gq : ∀ q : Int, h' 70 q.toNat = g q := fun q => by rw [hg]
  have out : ∀ (j5 j6 : PV), ¬ (0 ≤ i ∧ i < shp (gD h s p) k) → X 97 [vR 50, vI s, vI p, vI (k : Int), vI i, j5, j6] [] (LL M) h' 0 0 := by
    intro j5 j6 hn
    refine hX 20 [] 97 _ _ _ _ _ _ ?_
    exact ⟨rfl, FrM_tr f FrM_0, Or.inr ⟨hn, rfl, up_same⟩⟩
  have main : X 29 [vR 50, vI s, vI p, vI (k : Int), vI i, vI i, vI (tp (gD h s p) k)] [] (LL M) h' 0 0 := by
    by_cases hi : 0 ≤ i
    · by_cases hkd : kK (gD h s p) k = 2
      · have p1 := kd.2.2.2.2.2.2.2.1 hkd
        have hH : kH (gD h s p) k = -1 := by
          rcases kd.2.2.2.2.2.2.1 with z | z
          · exact z
          · have := z.1; omega
        have w := why0_shape hkd p1.1 hH hw
        have k0 : k ≠ 0 := fun z => by have := kd.2.1.mpr (by rw [z]); omega
        have tp1 := ((tp_bd2 kk.1 k (by omega)).2 k0).1
        have prv : g (tp (gD h s p) k - 1) = vl (gD h s p) k 0 := by
          have := last_row kk.1 msp.1 msp.2.1 hro (k - 1) (by omega)
          rw [show k - 1 + 1 = k by omega] at this
          rw [this, vl_0 sb.1 w.2]
        have val : ∀ q, 0 ≤ q → q ≤ kR (gD h s p) k → g (tp (gD h s p) k + q - 1) = vl (gD h s p) k q := by
          intro q q0 q1
          by_cases z : q = 0
          · subst z; rw [Int.add_zero]; exact prv
          · have := hro k hm1 (q - 1) (by omega) (by omega)
            rw [show tp (gD h s p) k + q - 1 = tp (gD h s p) k + (q - 1) by omega, this, sS_vl kk.1 hkn hw hkd (by omega) (by omega), show q - 1 + 1 = q by omega]
        have loop : ∀ (m : Nat) (q : Int), kR (gD h s p) k - q = (m : Int) → 0 ≤ q → 0 ≤ i - dnF (shp (gD h s p) k) (kR (gD h s p) k) q → X 29 [vR 50, vI s, vI p, vI (k : Int), vI i, vI (i - dnF (shp (gD h s p) k) (kR (gD h s p) k) q), vI (tp (gD h s p) k + q)] [] (LL M) h' 0 0 := by
          intro m
          induction m with
          | zero =>
            intro q hq q0 hl
            have eq : q = kR (gD h s p) k := by omega
            subst eq
            have dR : dnF (shp (gD h s p) k) (kR (gD h s p) k) (kR (gD h s p) k) = shp (gD h s p) k := by
              unfold dnF
              by_cases z : shp (gD h s p) k = 0
              · rw [if_pos z, z]
              · rw [if_neg z]
                have e : (kR (gD h s p) k + 1) * shp (gD h s p) k = shp (gD h s p) k * kR (gD h s p) k + shp (gD h s p) k := by rw [Int.add_mul, Int.mul_comm]; omega
                rw [e]
                exact ediv_of (by omega) (by omega) (by omega)
            refine hX 20 [97] 29 _ _ _ _ _ _ ?_
            refine And.intro ⟨by omega, by omega⟩ ?_
            refine And.intro ⟨by omega, by omega⟩ ?_
            rw [b2]
            refine And.intro (fun c39 => ?_) (fun c39 => absurd c39 (by omega))
            exact out _ _ (by omega)
          | succ m ih =>
            intro q hq q0 hl
            have dn := dn_step (n := shp (gD h s p) k) (R := kR (gD h s p) k) (q := q) sb.1 w.2 q0 (by omega)
            have db := dn_bd (n := shp (gD h s p) k) (R := kR (gD h s p) k) (q := q) sb.1 w.2 q0 (by omega)
            have v1 := val q q0 (by omega)
            have v2 := val (q + 1) (by omega) (by omega)
            rw [show tp (gD h s p) k + (q + 1) - 1 = tp (gD h s p) k + q by omega] at v2
            have step : ∀ l, l = i - dnF (shp (gD h s p) k) (kR (gD h s p) k) (q + 1) → 0 ≤ l → X 91 [vR 50, vI s, vI p, vI (k : Int), vI i, vI l, vI (tp (gD h s p) k + q)] [] (LL M) h' 0 0 := by
              intro l hl1 hl2
              subst hl1
              refine hX 20 [29] 91 _ _ _ _ _ _ ?_
              refine And.intro ⟨by omega, by omega⟩ ?_
              have z := ih (q + 1) (by omega) (by omega) hl2
              rw [← Int.add_assoc] at z
              exact z
            refine hX 60 [80, 91, 97] 29 _ _ _ _ _ _ ?_
            refine And.intro ⟨by omega, by omega⟩ ?_
            refine And.intro ⟨by omega, by omega⟩ ?_
            rw [b2]
            refine And.intro (fun c39 => absurd c39 (by omega)) (fun c39 => ?_)
            refine And.intro (fun c44 => absurd c44 (by omega)) (fun c44 => ?_)
            refine Ok_rt oh ?_
            rw [hkd]
            refine And.intro (fun c55 => absurd rfl c55) (fun _ => ?_)
            refine And.intro ⟨by omega, by omega⟩ ?_
            refine And.intro ⟨by omega, by omega⟩ ?_
            refine And.intro ⟨by omega, by omega⟩ ?_
            rw [gq, gq, v1, v2]
            by_cases ch : dnF (shp (gD h s p) k) (kR (gD h s p) k) q < shp (gD h s p) k ∧ ((dnF (shp (gD h s p) k) (kR (gD h s p) k) q + 1) * kR (gD h s p) k).tdiv (shp (gD h s p) k) = q + 1
            · have d1 := dn.1 ch
              refine And.intro (fun c74 => ?_) (fun c74 => ?_)
              · refine hX 20 [91] 80 _ _ _ _ _ _ ?_
                refine And.intro (fun c82 => ?_) (fun c82 => ?_)
                · refine And.intro ⟨by omega, by omega⟩ ?_
                  exact step _ (by omega) (by omega)
                · have c82 : i - dnF (shp (gD h s p) k) (kR (gD h s p) k) q = 0 := c82
                  have ei : dnF (shp (gD h s p) k) (kR (gD h s p) k) q = i := by omega
                  rw [ei] at ch
                  refine ⟨rfl, f, Or.inl ⟨⟨hi, ch.1⟩, ?_, e0⟩⟩
                  rw [ch.2, show tp (gD h s p) k + (q + 1) - 1 = tp (gD h s p) k + q by omega]
              · exfalso
                have c74 : vl (gD h s p) k (q + 1) = vl (gD h s p) k q := c74
                unfold vl at c74
                rw [d1, Int.mul_add] at c74
                by_cases y : hv (gD h s p) k < hv (gD h s p) (k + 1)
                · rw [if_pos y, if_pos y] at c74; omega
                · rw [if_neg y, if_neg y] at c74; omega
            · have d1 := dn.2 ch
              refine And.intro (fun c74 => ?_) (fun c74 => ?_)
              · exfalso
                apply c74
                unfold vl
                rw [d1]
              · exact step _ (by rw [d1]) hl
        have d0 := dn_0 sb.1 w.2
        have z := loop (kR (gD h s p) k).toNat 0 (by omega) (by omega) (by omega)
        rw [d0, Int.sub_zero, Int.add_zero] at z
        exact z
      · have s0 : shp (gD h s p) k = 0 := if_pos (Or.inl hkd)
        refine hX 60 [97] 29 _ _ _ _ _ _ ?_
        refine And.intro ⟨by omega, by omega⟩ ?_
        refine And.intro ⟨by omega, by omega⟩ ?_
        refine And.intro (fun c39 => out _ _ (by omega)) (fun c39 => ?_)
        refine And.intro (fun c44 => out _ _ (by omega)) (fun c44 => ?_)
        refine Ok_rt oh ?_
        refine And.intro (fun c55 => out _ _ (by omega)) (fun c55 => absurd c55 hkd)
    · refine hX 60 [97] 29 _ _ _ _ _ _ ?_
      refine And.intro ⟨by omega, by omega⟩ ?_
      refine And.intro ⟨by omega, by omega⟩ ?_
      refine And.intro (fun c39 => out _ _ (by omega)) (fun c39 => ?_)
      refine And.intro (fun c44 => out _ _ (by omega)) (fun c44 => absurd c44 (by omega))
  refine And.intro (fun _ => ?_) (fun c => absurd c (by decide))
  show X 21 [_, _, _, _, _, _, _] _ _ _ _ _
  refine hX 20 [29] 21 _ _ _ _ _ _ ?_
  refine And.intro ⟨by omega, by omega⟩ ?_
  rw [b1]
  show X 29 [_, _, _, _, _, _, _] _ _ _ _ _
  exact main
theorem m_shaping_x (hC : CI h) (hM : Cpl h) (hx : ¬ (isSz h s ∧ isPc h p ∧ isPa h p x)) : Ok 243 [vR 50, vI s, vI p, vI x, vI i] (LL M) h (thP M h 0 1) := by
  refine ok_body B_X9_shaping rfl (fun X hX => ?_)
  refine hX 60 [21] 0 _ _ _ _ _ _ ?_
  refine Ok_mono (fun o' Λ' h' hpost => ?_) (m_mayAsk0_x (M := M) hC hM hx)
  obtain ⟨rfl, rfl, f, e0⟩ := hpost
  refine And.intro (fun c => absurd rfl c) (fun _ => ?_)
  exact ⟨rfl, rfl, f, e0⟩
theorem m_shaping_y (hC : CI h) (hM : Cpl h) (hs : isSz h s) (hp : isPc h p) (hk : isPa h p x) (hm : ¬ x < (mdN h s p : Nat)) : Ok 243 [vR 50, vI s, vI p, vI x, vI i] (LL M) h (thP M h 0 2) := by
  refine ok_body B_X9_shaping rfl (fun X hX => ?_)
  refine hX 60 [21] 0 _ _ _ _ _ _ ?_
  refine Ok_mono (fun o' Λ' h' hpost => ?_) (m_mayAsk0_y (M := M) hC hM hs hp hk hm)
  obtain ⟨rfl, rfl, f, e0⟩ := hpost
  refine And.intro (fun c => absurd rfl c) (fun _ => ?_)
  exact ⟨rfl, rfl, f, e0⟩
end MQ2
