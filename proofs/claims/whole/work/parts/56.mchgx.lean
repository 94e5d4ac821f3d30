/-! ===== the model: changes that throw; grade, setGauge ===== -/
section CHGX
variable {M : List CT} {h : HP} {i j m s p c x y w a b : Int} {pm ns n : Nat}

theorem m_setValue_x (hT : TbC h) (hx : ¬ (isMs h m ∧ isSz h s)) : Ok 260 [vR 50, vI m, vI s, vI x] (LL M) h (thP M h 0 1) := by
  have T0 := TbC_0 (v := 0) hT
  have fin : ∀ e h', h' = up (up h 50 0 0) 50 0 e → FrM h h' ∧ h' 50 0 = e := fun e h' q => by rw [q, up_up]; exact ⟨FrM_0, up_same⟩
  refine ok_body B_X9_setValue rfl (fun X hX => ?_)
  have bad : X 27 [vR 50, vI m, vI s, vI x, vU] [vI 0, vR 50] (LL M) (up h 50 0 0) 0 0 := by
    refine hX 60 [53] 27 _ _ _ _ _ _ ?_
    refine Ok_rt (mayF (by decide) up_same) ?_
    refine And.intro (fun _ => ?_) (fun c9 => absurd rfl c9)
    exact ⟨rfl, rfl, fin _ _ rfl⟩
  refine hX 60 [27] 0 _ _ _ _ _ _ ?_
  refine Ok_mono (fun o' Λ' h' hpost => ?_) (t_isMeasure (M := M) (i := m) T0)
  obtain ⟨rfl, rfl, x9, rfl, hb⟩ := hpost
  rcases hb with ⟨h1, rfl⟩ | ⟨-, rfl⟩
  · refine And.intro (fun c9 => absurd c9 (by decide)) (fun _ => ?_)
    refine Ok_mono (fun o' Λ' h' hpost => ?_) (t_isSize (M := M) (i := s) T0)
    obtain ⟨rfl, rfl, x9, rfl, hb⟩ := hpost
    rcases hb with ⟨h2, rfl⟩ | ⟨-, rfl⟩
    · exact absurd ⟨isMs_0.mp h1, isSz_0.mp h2⟩ hx
    · exact And.intro (fun _ => bad) (fun c9 => absurd rfl c9)
  · exact And.intro (fun _ => bad) (fun c9 => absurd rfl c9)

theorem m_setValue_y (hT : TbC h) (hm : isMs h m) (hs : isSz h s) (hx : ¬ (0 ≤ x ∧ x ≤ 3000)) : Ok 260 [vR 50, vI m, vI s, vI x] (LL M) h (thP M h 0 2) := by
  have T0 := TbC_0 (v := 0) hT
  have fin : ∀ e h', h' = up (up h 50 0 0) 50 0 e → FrM h h' ∧ h' 50 0 = e := fun e h' q => by rw [q, up_up]; exact ⟨FrM_0, up_same⟩
  refine ok_body B_X9_setValue rfl (fun X hX => ?_)
  refine hX 60 [27] 0 _ _ _ _ _ _ ?_
  refine Ok_mono (fun o' Λ' h' hpost => ?_) (t_isMeasure (M := M) (i := m) T0)
  obtain ⟨rfl, rfl, x9, rfl, hb⟩ := hpost
  rcases hb with ⟨-, rfl⟩ | ⟨hb, -⟩
  case inr => exact absurd (isMs_0.mpr hm) hb
  refine And.intro (fun c9 => absurd c9 (by decide)) (fun _ => ?_)
  refine Ok_mono (fun o' Λ' h' hpost => ?_) (t_isSize (M := M) (i := s) T0)
  obtain ⟨rfl, rfl, x9, rfl, hb⟩ := hpost
  rcases hb with ⟨-, rfl⟩ | ⟨hb, -⟩
  case inr => exact absurd (isSz_0.mpr hs) hb
  refine And.intro (fun c9 => absurd c9 (by decide)) (fun _ => ?_)
  refine hX 60 [53] 27 _ _ _ _ _ _ ?_
  refine Ok_rt (mayT (by decide) up_same) ?_
  refine And.intro (fun c9 => absurd c9 (by decide)) (fun _ => ?_)
  refine Ok_rt (isIn_f hx) ?_
  refine Ok_rt (mayF (by decide) up_same) ?_
  refine And.intro (fun c9 => absurd rfl c9) (fun _ => ?_)
  exact ⟨rfl, rfl, fin _ _ rfl⟩

theorem m_setEase_x (hT : TbC h) (hx : ¬ (isPc h p ∧ isPa h p j)) : Ok 262 [vR 50, vI p, vI j, vI x] (LL M) h (thP M h 0 1) := by
  have T0 := TbC_0 (v := 0) hT
  have fin : ∀ e h', h' = up (up h 50 0 0) 50 0 e → FrM h h' ∧ h' 50 0 = e := fun e h' q => by rw [q, up_up]; exact ⟨FrM_0, up_same⟩
  refine ok_body B_X9_setEase rfl (fun X hX => ?_)
  refine hX 60 [55] 0 _ _ _ _ _ _ ?_
  refine Ok_mono (fun o' Λ' h' hpost => ?_) (t_isPart (M := M) (p := p) (k := j) T0)
  obtain ⟨rfl, rfl, x9, rfl, hb⟩ := hpost
  rcases hb with ⟨hb, -⟩ | ⟨-, rfl⟩
  case inl => exact absurd hb (fun y => hx ⟨isPc_0.mp y.1, isPa_0.mp y.2⟩)
  refine Ok_rt (mayF (by decide) up_same) ?_
  refine And.intro (fun _ => ?_) (fun c9 => absurd rfl c9)
  exact ⟨rfl, rfl, fin _ _ rfl⟩

theorem m_setEase_y (hT : TbC h) (hp : isPc h p) (hk : isPa h p j) (hx : ¬ (-999 ≤ x ∧ x ≤ 999)) : Ok 262 [vR 50, vI p, vI j, vI x] (LL M) h (thP M h 0 2) := by
  have T0 := TbC_0 (v := 0) hT
  have fin : ∀ e h', h' = up (up h 50 0 0) 50 0 e → FrM h h' ∧ h' 50 0 = e := fun e h' q => by rw [q, up_up]; exact ⟨FrM_0, up_same⟩
  refine ok_body B_X9_setEase rfl (fun X hX => ?_)
  refine hX 60 [55] 0 _ _ _ _ _ _ ?_
  refine Ok_mono (fun o' Λ' h' hpost => ?_) (t_isPart (M := M) (p := p) (k := j) T0)
  obtain ⟨rfl, rfl, x9, rfl, hb⟩ := hpost
  rcases hb with ⟨-, rfl⟩ | ⟨hb, -⟩
  case inr => exact absurd ⟨isPc_0.mpr hp, isPa_0.mpr hk⟩ hb
  refine Ok_rt (mayT (by decide) up_same) ?_
  refine And.intro (fun c9 => absurd c9 (by decide)) (fun _ => ?_)
  refine Ok_rt (isIn_f hx) ?_
  refine Ok_rt (mayF (by decide) up_same) ?_
  refine And.intro (fun _ => ?_) (fun c9 => absurd rfl c9)
  exact ⟨rfl, rfl, fin _ _ rfl⟩

theorem m_setEase_w (hT : TbC h) (hp : isPc h p) (hk : isPa h p j) (hx : -999 ≤ x ∧ x ≤ 999) (hkd : cF (h 26) p j 0 = 1) : Ok 262 [vR 50, vI p, vI j, vI x] (LL M) h (thP M h 0 3) := by
  have b3 := hT.1.2.2.2.1
  have bp := (hT.1.2.2.2.2.2 p hp.1 hp.2).1
  have p0 : 0 ≤ p ∧ p < 6 := ⟨hp.1, by have := hp.2; omega⟩
  have k0 : 0 ≤ j ∧ j < 10 := ⟨hk.1, by have := hk.2; omega⟩
  have pt := ((hT.2.2.2 p hp.1 hp.2).2 j hk.1 hk.2).1.1
  rw [rd_in (by omega) (by omega)] at pt
  have T0 := TbC_0 (v := 0) hT
  have fin : ∀ e h', h' = up (up h 50 0 0) 50 0 e → FrM h h' ∧ h' 50 0 = e := fun e h' q => by rw [q, up_up]; exact ⟨FrM_0, up_same⟩
  refine ok_body B_X9_setEase rfl (fun X hX => ?_)
  refine hX 60 [55] 0 _ _ _ _ _ _ ?_
  refine Ok_mono (fun o' Λ' h' hpost => ?_) (t_isPart (M := M) (p := p) (k := j) T0)
  obtain ⟨rfl, rfl, x9, rfl, hb⟩ := hpost
  rcases hb with ⟨-, rfl⟩ | ⟨hb, -⟩
  case inr => exact absurd ⟨isPc_0.mpr hp, isPa_0.mpr hk⟩ hb
  refine Ok_rt (mayT (by decide) up_same) ?_
  refine And.intro (fun c9 => absurd c9 (by decide)) (fun _ => ?_)
  refine Ok_rt (isIn_t hx) ?_
  refine Ok_rt (mayT (by decide) up_same) ?_
  refine And.intro (fun c9 => absurd c9 (by decide)) (fun _ => ?_)
  have of0 : Ok 223 [vR 50, vI p, vI j, vI 0] (LL M) (up h 50 0 0) (rt (some (vI 1)) (LL M) (up h 50 0 0)) := by
    refine ok_body B_X9_of rfl (fun X hX => ?_)
    refine hX 18 [] 0 _ _ _ _ _ _ ?_
    refine And.intro ⟨by omega, by omega⟩ ?_
    refine And.intro ⟨by omega, by omega⟩ ?_
    refine And.intro ⟨by omega, by omega⟩ ?_
    refine And.intro ⟨by omega, by omega⟩ ?_
    refine And.intro ⟨by omega, by omega⟩ ?_
    exact rt_mk (congrArg (fun z => some (vI z)) (show up h 50 0 0 55 (8 * (10 * p + j) + 0).toNat = _ by rw [up_cell (by decide)]; exact pt.trans hkd)) rfl
  refine Ok_rt of0 ?_
  refine And.intro (fun _ => ?_) (fun c9 => absurd rfl c9)
  refine hX 60 [64] 55 _ _ _ _ _ _ ?_
  refine Ok_rt (mayF (by decide) up_same) ?_
  refine And.intro (fun c9 => absurd rfl c9) (fun _ => ?_)
  exact ⟨rfl, rfl, fin _ _ rfl⟩

theorem m_addLot_x (hx : ¬ ((0 ≤ c ∧ c ≤ 3) ∧ 1 ≤ m ∧ m ≤ 9999)) : Ok 263 [vR 50, vI c, vI m] (LL M) h (thP M h 0 1) := by
  have fin : ∀ e h', h' = up (up h 50 0 0) 50 0 e → FrM h h' ∧ h' 50 0 = e := fun e h' q => by rw [q, up_up]; exact ⟨FrM_0, up_same⟩
  refine ok_body B_X9_addLot rfl (fun X hX => ?_)
  have bad : X 30 [vR 50, vI c, vI m, vU] [vI 0, vR 50] (LL M) (up h 50 0 0) 0 0 := by
    refine hX 60 [63] 30 _ _ _ _ _ _ ?_
    refine Ok_rt (mayF (by decide) up_same) ?_
    refine And.intro (fun _ => ?_) (fun c9 => absurd rfl c9)
    exact ⟨rfl, rfl, fin _ _ rfl⟩
  refine hX 60 [30] 0 _ _ _ _ _ _ ?_
  refine Ok_mono (fun o' Λ' h' hpost => ?_) (m_isColor (M := M) (i := c))
  obtain ⟨rfl, rfl, x9, rfl, hb⟩ := hpost
  rcases hb with ⟨h1, rfl⟩ | ⟨-, rfl⟩
  · refine And.intro (fun c9 => absurd c9 (by decide)) (fun _ => ?_)
    refine Ok_rt (isIn_f (fun y => hx ⟨h1, y⟩)) ?_
    exact And.intro (fun _ => bad) (fun c9 => absurd rfl c9)
  · exact And.intro (fun _ => bad) (fun c9 => absurd rfl c9)
theorem m_addLot_y (hc : 0 ≤ c ∧ c ≤ 3) (hm : 1 ≤ m ∧ m ≤ 9999) (hl : ¬ h 57 3 < 10) : Ok 263 [vR 50, vI c, vI m] (LL M) h (thP M h 0 2) := by
  have fin : ∀ e h', h' = up (up h 50 0 0) 50 0 e → FrM h h' ∧ h' 50 0 = e := fun e h' q => by rw [q, up_up]; exact ⟨FrM_0, up_same⟩
  refine ok_body B_X9_addLot rfl (fun X hX => ?_)
  refine hX 60 [30] 0 _ _ _ _ _ _ ?_
  refine Ok_mono (fun o' Λ' h' hpost => ?_) (m_isColor (M := M) (i := c))
  obtain ⟨rfl, rfl, x9, rfl, hb⟩ := hpost
  rcases hb with ⟨-, rfl⟩ | ⟨hb, -⟩
  case inr => exact absurd hc hb
  refine And.intro (fun c9 => absurd c9 (by decide)) (fun _ => ?_)
  refine Ok_rt (isIn_t hm) ?_
  refine And.intro (fun c9 => absurd c9 (by decide)) (fun _ => ?_)
  refine hX 60 [54, 63] 30 _ _ _ _ _ _ ?_
  refine Ok_rt (mayT (by decide) up_same) ?_
  refine And.intro (fun c9 => absurd c9 (by decide)) (fun _ => ?_)
  refine And.intro ⟨by omega, by omega⟩ ?_
  have e3 : up h 50 0 0 57 (3 : Int).toNat = h 57 3 := by rw [up_cell (by decide)]; rfl
  rw [e3]
  refine And.intro (fun _ => ?_) (fun c46 => absurd c46 (by omega))
  refine hX 60 [63] 54 _ _ _ _ _ _ ?_
  refine Ok_rt (mayF (by decide) up_same) ?_
  refine And.intro (fun c9 => absurd rfl c9) (fun _ => ?_)
  exact ⟨rfl, rfl, fin _ _ rfl⟩

theorem m_removeLot_x (hl : 0 ≤ h 57 3 ∧ h 57 3 ≤ 10) (hx : ¬ (0 ≤ i ∧ i < h 57 3)) : Ok 264 [vR 50, vI i] (LL M) h (thP M h 0 1) := by
  have fin : ∀ e h', h' = up (up h 50 0 0) 50 0 e → FrM h h' ∧ h' 50 0 = e := fun e h' q => by rw [q, up_up]; exact ⟨FrM_0, up_same⟩
  refine ok_body B_X9_removeLot rfl (fun X hX => ?_)
  refine hX 60 [30] 0 _ _ _ _ _ _ ?_
  refine And.intro ⟨by omega, by omega⟩ ?_
  have e3 : up h 50 0 0 57 (3 : Int).toNat = h 57 3 := by rw [up_cell (by decide)]; rfl
  rw [e3]
  refine And.intro ⟨by omega, by omega⟩ ?_
  refine Ok_rt (isIn_f (fun y => hx ⟨y.1, by omega⟩)) ?_
  refine Ok_rt (mayF (by decide) up_same) ?_
  refine And.intro (fun c9 => absurd rfl c9) (fun _ => ?_)
  exact ⟨rfl, rfl, fin _ _ rfl⟩

theorem m_setGauge_x (hx : ¬ ((5 ≤ a ∧ a ≤ 99) ∧ (5 ≤ b ∧ b ≤ 99) ∧ 1 ≤ c ∧ c ≤ 99)) : Ok 259 [vR 50, vI a, vI b, vI c] (LL M) h (thP M h 0 1) := by
  have fin : ∀ e h', h' = up (up h 50 0 0) 50 0 e → FrM h h' ∧ h' 50 0 = e := fun e h' q => by rw [q, up_up]; exact ⟨FrM_0, up_same⟩
  refine ok_body B_X9_setGauge rfl (fun X hX => ?_)
  have bad : X 51 [vR 50, vI a, vI b, vI c, vU, vU, vU] [vI 0, vR 50] (LL M) (up h 50 0 0) 0 0 := by
    refine hX 60 [60] 51 _ _ _ _ _ _ ?_
    refine Ok_rt (mayF (by decide) up_same) ?_
    refine And.intro (fun c9 => absurd rfl c9) (fun _ => ?_)
    exact ⟨rfl, rfl, fin _ _ rfl⟩
  refine hX 60 [51] 0 _ _ _ _ _ _ ?_
  by_cases z1 : 5 ≤ a ∧ a ≤ 99
  · refine Ok_rt (isIn_t z1) ?_
    refine And.intro (fun c9 => absurd c9 (by decide)) (fun _ => ?_)
    by_cases z2 : 5 ≤ b ∧ b ≤ 99
    · refine Ok_rt (isIn_t z2) ?_
      refine And.intro (fun c9 => absurd c9 (by decide)) (fun _ => ?_)
      refine Ok_rt (isIn_f (fun y => hx ⟨z1, z2, y⟩)) ?_
      exact And.intro (fun _ => bad) (fun c9 => absurd rfl c9)
    · refine Ok_rt (isIn_f z2) ?_
      exact And.intro (fun _ => bad) (fun c9 => absurd rfl c9)
  · refine Ok_rt (isIn_f z1) ?_
    exact And.intro (fun _ => bad) (fun c9 => absurd rfl c9)

theorem gr_all (hn1 : 1 ≤ ns) (hn : ns ≤ 6) : (∀ t : Nat, t < ns → 0 ≤ x + (t : Int) * y ∧ x + (t : Int) * y ≤ 3000) ↔ ((0 ≤ x ∧ x ≤ 3000) ∧ 0 ≤ x + y * ((ns : Int) - 1) ∧ x + y * ((ns : Int) - 1) ≤ 3000) := by
  constructor
  · intro h
    have a := h 0 (by omega)
    have b := h (ns - 1) (by omega)
    rw [show (((ns - 1 : Nat)) : Int) = (ns : Int) - 1 by omega, Int.mul_comm] at b
    exact ⟨by omega, b⟩
  · rintro ⟨a, b⟩ t ht
    have e : (t : Int) * y = y * (t : Int) := Int.mul_comm _ _
    by_cases z : 0 ≤ y
    · have m1 : y * (t : Int) ≤ y * ((ns : Int) - 1) := Int.mul_le_mul_of_nonneg_left (by omega) z
      have m2 : 0 ≤ y * (t : Int) := Int.mul_nonneg z (by omega)
      omega
    · have m1 : y * ((ns : Int) - 1) ≤ y * (t : Int) := Int.mul_le_mul_of_nonpos_left (by omega) (by omega)
      have m2 : y * (t : Int) ≤ y * 0 := Int.mul_le_mul_of_nonpos_left (by omega) (by omega)
      omega
theorem ty_bd {t : Nat} (ht : t ≤ 6) (hy : inR y) : -13000000000 ≤ (t : Int) * y ∧ (t : Int) * y ≤ 13000000000 := by
  have m1 : (t : Int) * y ≤ (t : Int) * 2147483647 := Int.mul_le_mul_of_nonneg_left hy.2 (by omega)
  have m2 : (t : Int) * (-2147483648) ≤ (t : Int) * y := Int.mul_le_mul_of_nonneg_left hy.1 (by omega)
  omega
theorem m_grade (hT : TbC h) (hp : h 50 15 = (pm : Int)) (h8 : pm ≤ 8) (hm : isMs h m) (hns : rd (h 21) 4 0 = (ns : Int)) (hx : ∀ t : Nat, t < ns → 0 ≤ x + (t : Int) * y ∧ x + (t : Int) * y ≤ 3000) (hy : inR y) :
    Ok 261 [vR 50, vI m, vI x, vI y] (LL M) h (chP M h pm (x + ((ns : Int) - 1) * y) (fun i => if 4 + 6 * m.toNat ≤ i ∧ i < 4 + 6 * m.toNat + ns then x + ((i : Int) - (4 + 6 * m)) * y else h 57 i)) := by
  have T0 := TbC_0 (v := 0) hT
  have b0 := hT.1.1
  have b1 := hT.1.2.1
  have m0 : 0 ≤ m ∧ m < 8 := ⟨hm.1, by have := hm.2; omega⟩
  have x0 := hx 0 (by omega)
  have e1 : ∀ h' : HP, h' 50 1 = h 50 1 → h' 50 1 = (ns : Int) := fun h' e => by rw [e, hT.2.1.1]; exact hns
  refine ok_body B_X9_grade rfl (fun X hX => ?_)
  have chk : ∀ (f t : Nat), t + f = ns → X 26 [vR 50, vI m, vI x, vI y, vI 1, vI (t : Int)] [] (LL M) (up h 50 0 0) 0 0 := by
    intro f
    induction f with
    | zero =>
      intro t ht
      have g1 := e1 (up h 50 0 0) (up_ne (by decide))
      refine hX 60 [72] 26 _ _ _ _ _ _ ?_
      refine And.intro (fun _ => ?_) (fun c32 => absurd c32 (by omega))
      refine hX 60 [84] 72 _ _ _ _ _ _ ?_
      refine Ok_rt (mayT (by decide) up_same) ?_
      refine And.intro (fun _ => ?_) (fun c9 => absurd c9 (by decide))
      refine hX 60 [91] 84 _ _ _ _ _ _ ?_
      refine Ok_mono (fun o' Λ' h1 hpost => ?_) (m_keeps (M := M) (h := up h 50 0 0) (pm := pm) (by rw [up_ne (by decide)]; exact hp) h8)
      obtain ⟨rfl, rfl, K⟩ := hpost
      have e57 : h1 57 = h 57 := by rw [K.1 57 (by decide) (by decide), up_cell (by decide)]
      have f1 : h1 50 1 = (ns : Int) := e1 h1 (by rw [K.2.1 1 (by decide), up_ne (by decide)])
      have put : ∀ (f t : Nat) (h2 : HP), t + f = ns → (∀ c, c ≠ 57 → h2 c = h1 c) → (∀ i : Nat, h2 57 i = if 4 + 6 * m.toNat ≤ i ∧ i < 4 + 6 * m.toNat + t then x + ((i : Int) - (4 + 6 * m)) * y else h 57 i) → X 91 [vR 50, vI m, vI x, vI y, vI 1, vI (t : Int)] [] (LL M) h2 0 0 := by
        intro f
        induction f with
        | zero =>
          intro t h2 ht g2 g3
          have et : t = ns := by omega
          subst et
          have f2 : h2 50 1 = (t : Int) := by rw [g2 50 (by decide)]; exact f1
          refine hX 60 [] 91 _ _ _ _ _ _ ?_
          refine And.intro (fun _ => ?_) (fun c97 => absurd c97 (by omega))
          refine And.intro (show inR (h2 50 1 - 1) from ⟨by omega, by omega⟩) ?_
          refine Ok_rt (t_valueOf m0 (show 0 ≤ h2 50 1 - 1 ∧ h2 50 1 - 1 < 6 by omega)) ?_
          refine ⟨?_, rfl, h1, K, fun c c1 c2 _ => g2 c c2, fun q _ _ _ _ => by rw [g2 50 (by decide)], fun i hi => g3 i⟩
          rw [g3, if_pos (by omega)]
          have e : ((4 + 6 * m + (h2 50 1 - 1)).toNat : Int) - (4 + 6 * m) = (t : Int) - 1 := by omega
          rw [e]
        | succ f ih2 =>
          intro t h2 ht g2 g3
          have xt := hx t (by omega)
          have f2 : h2 50 1 = (ns : Int) := by rw [g2 50 (by decide)]; exact f1
          refine hX 60 [91] 91 _ _ _ _ _ _ ?_
          refine And.intro (fun c97 => absurd c97 (by omega)) (fun c97 => ?_)
          refine And.intro ⟨by omega, by omega⟩ ?_
          refine And.intro ⟨by omega, by omega⟩ ?_
          refine And.intro ⟨by omega, by omega⟩ ?_
          refine And.intro ⟨by omega, by omega⟩ ?_
          refine And.intro ⟨by omega, by omega⟩ ?_
          refine And.intro ⟨by omega, by omega⟩ ?_
          refine And.intro ⟨by omega, by omega⟩ ?_
          rw [show (4 + 6 * m + (t : Int)).toNat = 4 + 6 * m.toNat + t by omega]
          refine ih2 (t + 1) _ (by omega) (fun c c1 => by rw [up_cell c1]; exact g2 c c1) (fun i => ?_)
          rw [up_at, g3 i]
          by_cases z : i = 4 + 6 * m.toNat + t
          · rw [if_pos z, if_pos ⟨by omega, by omega⟩, show (i : Int) - (4 + 6 * m) = (t : Int) by omega]
          · rw [if_neg z]
            by_cases q : 4 + 6 * m.toNat ≤ i ∧ i < 4 + 6 * m.toNat + t
            · rw [if_pos q, if_pos ⟨q.1, by omega⟩]
            · rw [if_neg q, if_neg (by omega)]
      exact put ns 0 h1 (by omega) (fun _ _ => rfl) (fun i => by rw [if_neg (by omega), e57])
    | succ f ih =>
      intro t ht
      have g1 := e1 (up h 50 0 0) (up_ne (by decide))
      have xt := hx t (by omega)
      have tb := ty_bd (t := t) (by omega) hy
      refine hX 60 [26, 64] 26 _ _ _ _ _ _ ?_
      refine And.intro (fun c32 => absurd c32 (by omega)) (fun c32 => ?_)
      refine And.intro (fun c9 => absurd c9 (by decide)) (fun _ => ?_)
      refine And.intro ⟨by omega, by omega⟩ ?_
      refine And.intro ⟨by omega, by omega⟩ ?_
      refine Ok_rt (isIn_t xt) ?_
      refine And.intro (fun c9 => absurd c9 (by decide)) (fun _ => ?_)
      refine hX 60 [26, 66] 64 _ _ _ _ _ _ ?_
      show X 66 [_, _, _, _, _, _] _ _ _ _ _
      refine hX 60 [26] 66 _ _ _ _ _ _ ?_
      refine And.intro ⟨by omega, by omega⟩ ?_
      exact ih (t + 1) (by omega)
  refine hX 60 [23, 26] 0 _ _ _ _ _ _ ?_
  refine Ok_mono (fun o' Λ' h' hpost => ?_) (t_isMeasure (M := M) (i := m) T0)
  obtain ⟨rfl, rfl, x9, rfl, hb⟩ := hpost
  rcases hb with ⟨-, rfl⟩ | ⟨hb, -⟩
  case inr => exact absurd (isMs_0.mpr hm) hb
  refine Ok_rt (mayT (by decide) up_same) ?_
  refine And.intro (fun _ => ?_) (fun c9 => absurd c9 (by decide))
  show X 23 [_, _, _, _, _, _] _ _ _ _ _
  refine hX 60 [26] 23 _ _ _ _ _ _ ?_
  exact chk ns 0 (by omega)
theorem m_grade_y (hT : TbC h) (hm : isMs h m) (hns : rd (h 21) 4 0 = (ns : Int)) (hx : ¬ ∀ t : Nat, t < ns → 0 ≤ x + (t : Int) * y ∧ x + (t : Int) * y ≤ 3000) (hxr : inR x) (hy : inR y) : Ok 261 [vR 50, vI m, vI x, vI y] (LL M) h (thP M h 0 2) := by
  have T0 := TbC_0 (v := 0) hT
  have fin : ∀ e h', h' = up (up h 50 0 0) 50 0 e → FrM h h' ∧ h' 50 0 = e := fun e h' q => by rw [q, up_up]; exact ⟨FrM_0, up_same⟩
  have b0 := hT.1.1
  have g1 : up h 50 0 0 50 1 = (ns : Int) := by rw [up_ne (by decide), hT.2.1.1]; exact hns
  refine ok_body B_X9_grade rfl (fun X hX => ?_)
  have chk : ∀ (f t : Nat) (v : Int), t + f = ns → bI v (∀ r : Nat, r < t → 0 ≤ x + (r : Int) * y ∧ x + (r : Int) * y ≤ 3000) → X 26 [vR 50, vI m, vI x, vI y, vI v, vI (t : Int)] [] (LL M) (up h 50 0 0) 0 0 := by
    intro f
    induction f with
    | zero =>
      intro t v ht hv1
      have et : t = ns := by omega
      subst et
      rcases hv1 with ⟨hv1, -⟩ | ⟨-, rfl⟩
      · exact absurd hv1 hx
      · refine hX 60 [72] 26 _ _ _ _ _ _ ?_
        refine And.intro (fun _ => ?_) (fun c32 => absurd c32 (by omega))
        refine hX 60 [84] 72 _ _ _ _ _ _ ?_
        refine Ok_rt (mayF (by decide) up_same) ?_
        refine And.intro (fun c9 => absurd rfl c9) (fun _ => ?_)
        exact ⟨rfl, rfl, fin _ _ rfl⟩
    | succ f ih =>
      intro t v ht hv1
      have tb := ty_bd (t := t) (by omega) hy
      have nxt : ∀ v' , bI v' (∀ r : Nat, r < t + 1 → 0 ≤ x + (r : Int) * y ∧ x + (r : Int) * y ≤ 3000) → X 64 [vR 50, vI m, vI x, vI y, vI v, vI (t : Int)] [vI v'] (LL M) (up h 50 0 0) 0 0 := by
        intro v' hv2
        refine hX 60 [26, 66] 64 _ _ _ _ _ _ ?_
        show X 66 [_, _, _, _, _, _] _ _ _ _ _
        refine hX 60 [26] 66 _ _ _ _ _ _ ?_
        refine And.intro ⟨by omega, by omega⟩ ?_
        exact ih (t + 1) v' (by omega) hv2
      refine hX 60 [26, 64] 26 _ _ _ _ _ _ ?_
      refine And.intro (fun c32 => absurd c32 (by omega)) (fun c32 => ?_)
      rcases hv1 with ⟨hv1, rfl⟩ | ⟨hv1, rfl⟩
      · refine And.intro (fun c9 => absurd c9 (by decide)) (fun _ => ?_)
        refine And.intro ⟨by omega, by omega⟩ ?_
        refine And.intro ⟨by omega, by omega⟩ ?_
        by_cases z : 0 ≤ x + (t : Int) * y ∧ x + (t : Int) * y ≤ 3000
        · refine Ok_rt (isIn_t z) ?_
          refine And.intro (fun c9 => absurd c9 (by decide)) (fun _ => ?_)
          exact nxt 1 (Or.inl ⟨fun r hr => by
            by_cases q : r = t
            · rw [q]; exact z
            · exact hv1 r (by omega), rfl⟩)
        · refine Ok_rt (isIn_f z) ?_
          refine And.intro (fun _ => ?_) (fun c9 => absurd rfl c9)
          exact nxt 0 (Or.inr ⟨fun q => z (q t (by omega)), rfl⟩)
      · refine And.intro (fun _ => ?_) (fun c9 => absurd rfl c9)
        exact nxt 0 (Or.inr ⟨fun q => hv1 (fun r hr => q r (by omega)), rfl⟩)
  refine hX 60 [23, 26] 0 _ _ _ _ _ _ ?_
  refine Ok_mono (fun o' Λ' h' hpost => ?_) (t_isMeasure (M := M) (i := m) T0)
  obtain ⟨rfl, rfl, x9, rfl, hb⟩ := hpost
  rcases hb with ⟨-, rfl⟩ | ⟨hb, -⟩
  case inr => exact absurd (isMs_0.mpr hm) hb
  refine Ok_rt (mayT (by decide) up_same) ?_
  refine And.intro (fun _ => ?_) (fun c9 => absurd c9 (by decide))
  show X 23 [_, _, _, _, _, _] _ _ _ _ _
  refine hX 60 [26] 23 _ _ _ _ _ _ ?_
  exact chk ns 0 1 (by omega) (Or.inl ⟨fun r hr => absurd hr (Nat.not_lt_zero _), rfl⟩)
theorem m_grade_x (hT : TbC h) (hm : ¬ isMs h m) : Ok 261 [vR 50, vI m, vI x, vI y] (LL M) h (thP M h 0 1) := by
  have T0 := TbC_0 (v := 0) hT
  have fin : ∀ e h', h' = up (up h 50 0 0) 50 0 e → FrM h h' ∧ h' 50 0 = e := fun e h' q => by rw [q, up_up]; exact ⟨FrM_0, up_same⟩
  refine ok_body B_X9_grade rfl (fun X hX => ?_)
  refine hX 60 [23, 26] 0 _ _ _ _ _ _ ?_
  refine Ok_mono (fun o' Λ' h' hpost => ?_) (t_isMeasure (M := M) (i := m) T0)
  obtain ⟨rfl, rfl, x9, rfl, hb⟩ := hpost
  rcases hb with ⟨hb, -⟩ | ⟨-, rfl⟩
  case inl => exact absurd hb (fun q => hm (isMs_0.mp q))
  refine Ok_rt (mayF (by decide) up_same) ?_
  refine And.intro (fun c9 => absurd rfl c9) (fun _ => ?_)
  exact ⟨rfl, rfl, fin _ _ rfl⟩

theorem m_setGauge (hT : TbC h) (hC : CI h) (hp : h 50 15 = (pm : Int)) (h8 : pm ≤ 8) (ha : 5 ≤ a ∧ a ≤ 99) (hb : 5 ≤ b ∧ b ≤ 99) (hc : 1 ≤ c ∧ c ≤ 99) (hn : rd (h 21) 4 3 = (n : Int)) (hns : rd (h 21) 4 0 = (ns : Int))
    (hS : StC (fun i => if i = 2 then c else if i = 1 then b else if i = 0 then a else h 57 i) (h 28)) :
    Ok 259 [vR 50, vI a, vI b, vI c] (LL M) h (chP M h pm (fpO h n ns 0 0) (fun i => if i = 2 then c else if i = 1 then b else if i = 0 then a else h 57 i)) := by
  have n6 : n ≤ 6 := by have := hT.1.2.2.2.1; omega
  have b0 := hT.1.1
  refine ok_body B_X9_setGauge rfl (fun X hX => ?_)
  refine hX 60 [51] 0 _ _ _ _ _ _ ?_
  refine Ok_rt (isIn_t ha) ?_
  refine And.intro (fun c9 => absurd c9 (by decide)) (fun _ => ?_)
  refine Ok_rt (isIn_t hb) ?_
  refine And.intro (fun c9 => absurd c9 (by decide)) (fun _ => ?_)
  refine Ok_rt (isIn_t hc) ?_
  refine And.intro (fun c9 => absurd c9 (by decide)) (fun _ => ?_)
  refine hX 60 [60] 51 _ _ _ _ _ _ ?_
  refine Ok_rt (mayT (by decide) up_same) ?_
  refine And.intro (fun _ => ?_) (fun c9 => absurd c9 (by decide))
  refine hX 60 [92, 95] 60 _ _ _ _ _ _ ?_
  refine Ok_mono (fun o' Λ' h1 hpost => ?_) (m_keeps (M := M) (h := up h 50 0 0) (pm := pm) (by rw [up_ne (by decide)]; exact hp) h8)
  obtain ⟨rfl, rfl, K⟩ := hpost
  have e57 : h1 57 = h 57 := by rw [K.1 57 (by decide) (by decide), up_cell (by decide)]
  refine And.intro ⟨by omega, by omega⟩ ?_
  refine And.intro ⟨by omega, by omega⟩ ?_
  refine And.intro ⟨by omega, by omega⟩ ?_
  obtain ⟨h2, hh2⟩ : ∃ h2 : HP, h2 = up (up (up h1 57 (0 : Int).toNat a) 57 (1 : Int).toNat b) 57 (2 : Int).toNat c := ⟨_, rfl⟩
  rw [← hh2]
  have o2 : ∀ q, q ≠ 57 → h2 q = h1 q := fun q hq => by rw [hh2, up_cell hq, up_cell hq, up_cell hq]
  have n2 : ∀ i : Nat, h2 57 i = if i = 2 then c else if i = 1 then b else if i = 0 then a else h 57 i := fun i => by
    rw [hh2]
    show up (up (up h1 57 0 a) 57 1 b) 57 2 c 57 i = _
    rw [up_at, up_at, up_at, e57]
  have g : ∀ q, q ≠ 50 → q ≠ 57 → q ≠ 58 → h2 q = h q := fun q q0 q1 q2 => by rw [o2 q q1, K.1 q q0 q2, up_cell q0]
  have g50 : ∀ q, q ≠ 15 → q ≠ 0 → h2 50 q = h 50 q := fun q q1 q2 => by rw [o2 50 (by decide), K.2.1 q q1, up_ne q2]
  have T2 : TbC h2 := TbC_fr hT (fun c a b => g c (by omega) (by omega) (by omega)) (fun c a b => g c (by omega) (by omega) (by omega)) (fun j a b => g50 j (by omega) (by omega))
  have S2 : StC (h2 57) (h2 28) := by
    rw [g 28 (by decide) (by decide) (by decide)]
    exact StC_by (fun q => by unfold rd; split; exact n2 _; rfl) hS
  have M2 := Cpl_T T2 S2
  have C2 : CI h2 := CI_fr hC (fun c a b => g c (by omega) (by omega) (by omega))
  -- behind the knitting of some pieces
  have loopO : ∀ (f t : Nat) (v : Int) (h3 : HP) (j6 : PV), t + f = ns → 0 ≤ v → v ≤ 6 * (t : Int) → (∀ q, q ≠ 50 → q ≠ 69 → q ≠ 70 → q ≠ 71 → h3 q = h2 q) → (∀ q, q ≠ 39 → q ≠ 40 → q ≠ 41 → h3 50 q = h2 50 q) → StC (h3 69) (h 28) → fpO h n ns 0 0 = fpO h n f t v →
      X 95 [vR 50, vI a, vI b, vI c, vI v, vI (t : Int), j6] [] (LL M) h3 0 0 := by
    intro f
    induction f with
    | zero =>
      intro t v h3 j6 ht v0 v1 k1 k2 k3 hv1
      have e1 : h3 50 1 = (ns : Int) := by rw [k2 1 (by decide) (by decide) (by decide), g50 1 (by decide) (by decide), hT.2.1.1]; exact hns
      refine hX 20 [] 95 _ _ _ _ _ _ ?_
      refine And.intro (fun _ => ?_) (fun c101 => absurd c101 (by omega))
      have ev : fpO h n ns 0 0 = v := hv1
      refine ⟨by rw [ev], rfl, h1, K, fun q q0 q1 q2 => by rw [k1 q q0 (by omega) (by omega) (by omega), o2 q q1], fun q q0 q1 q2 q3 => by rw [k2 q q0 q1 q2, o2 50 (by decide)], fun i hi => ?_⟩
      rw [k1 57 (by decide) (by decide) (by decide) (by decide)]
      exact n2 i
    | succ f ih =>
      intro t v h3 j6 ht v0 v1 k1 k2 k3 hv1
      have e1 : h3 50 1 = (ns : Int) := by rw [k2 1 (by decide) (by decide) (by decide), g50 1 (by decide) (by decide), hT.2.1.1]; exact hns
      have inner : ∀ (e q : Nat) (u : Int) (h4 : HP), q + e = n → v ≤ u → u ≤ v + (q : Int) → (∀ q, q ≠ 50 → q ≠ 69 → q ≠ 70 → q ≠ 71 → h4 q = h2 q) → (∀ q, q ≠ 39 → q ≠ 40 → q ≠ 41 → h4 50 q = h2 50 q) → StC (h4 69) (h 28) → fpI h t n 0 v = fpI h t e q u →
          X 107 [vR 50, vI a, vI b, vI c, vI u, vI (t : Int), vI (q : Int)] [] (LL M) h4 0 0 := by
        intro e
        induction e with
        | zero =>
          intro q u h4 hq u0 u1 k1 k2 k3 hu
          have e4 : h4 50 4 = (n : Int) := by rw [k2 4 (by decide) (by decide) (by decide), g50 4 (by decide) (by decide), hT.2.1.2.2.2]; exact hn
          refine hX 20 [95] 107 _ _ _ _ _ _ ?_
          refine And.intro (fun _ => ?_) (fun c113 => absurd c113 (by omega))
          refine And.intro ⟨by omega, by omega⟩ ?_
          have eu : fpI h t n 0 v = u := hu
          refine ih (t + 1) u h4 _ (by omega) (by omega) (by omega) k1 k2 k3 ?_
          rw [hv1]
          show fpO h n f (t + 1) (fpI h t n 0 v) = _
          rw [eu]
        | succ e ihe =>
          intro q u h4 hq u0 u1 k1 k2 k3 hu
          have e4 : h4 50 4 = (n : Int) := by rw [k2 4 (by decide) (by decide) (by decide), g50 4 (by decide) (by decide), hT.2.1.2.2.2]; exact hn
          have l4 : ∀ x, x < 50 → h4 x = h x := fun x hx => by rw [k1 x (by omega) (by omega) (by omega) (by omega), g x (by omega) (by omega) (by omega)]
          have C4 : CI h4 := CI_fr C2 (fun c a b => k1 c (by omega) (by omega) (by omega) (by omega))
          have M4 : Cpl h4 := Cpl_fr M2 (fun c a b => k1 c (by omega) (by omega) (by omega) (by omega)) (fun c a b => k1 c (by omega) (by omega) (by omega) (by omega)) (fun j a b => k2 j (by omega) (by omega) (by omega))
          have ip : isPc h (q : Int) := ⟨by omega, by omega⟩
          have gn : rd (h4 25) 6 (q : Int) = ((gN h q : Nat) : Int) := by rw [l4 25 (by decide)]; unfold gN; have := (hC.1.2.2.2.2.2 q ip.1 ip.2).1; omega
          have gd : gD h t q = cDr (h4 22) (h4 23) (h4 24) (h4 26) (h 28) t q := by unfold gD; rw [l4 22 (by decide), l4 23 (by decide), l4 24 (by decide), l4 26 (by decide)]
          have kn := m_knits (M := M) (h := h4) (s := (t : Int)) (p := (q : Int)) (n := gN h q) (st := h 28) (D := gD h t q) M4 C4 (by unfold isSz; rw [l4 21 (by decide)]; exact ⟨by omega, by omega⟩) (by unfold isPc; rw [l4 21 (by decide)]; exact ip) k3 hC.2 gd gn
          refine hX 40 [138] 107 _ _ _ _ _ _ ?_
          refine And.intro (fun c113 => absurd c113 (by omega)) (fun c113 => ?_)
          refine Ok_mono (fun o' Λ' h5 hpost => ?_) kn
          obtain ⟨rfl, rfl, f5, hI⟩ := hpost
          have i41 := hI.2.2.1
          have nxt : ∀ v', v' = flI h t q → 0 ≤ v' → v' ≤ 1 → X 138 [vR 50, vI a, vI b, vI c, vI u, vI (t : Int), vI (q : Int)] [vI v', vI u] (LL M) h5 0 0 := by
            intro v' hv2 w0 w1
            refine hX 40 [107, 141] 138 _ _ _ _ _ _ ?_
            refine And.intro ⟨by omega, by omega⟩ ?_
            show X 141 [_, _, _, _, _, _, _] _ _ _ _ _
            refine hX 40 [107] 141 _ _ _ _ _ _ ?_
            refine And.intro ⟨by omega, by omega⟩ ?_
            refine ihe (q + 1) (u + v') h5 (by omega) (by omega) (by omega) (fun x x0 x1 x2 x3 => by rw [f5.1 x x0 x2 x3]; exact k1 x x0 x1 x2 x3) (fun x x0 x1 x2 => by rw [f5.2 x x0 x1 x2]; exact k2 x x0 x1 x2) (by rw [f5.1 69 (by decide) (by decide) (by decide)]; exact k3) ?_
            rw [hu, hv2]
            rfl
          have fz := fl_0 (gD h t q) (gN h q)
          refine And.intro (fun c130 => ?_) (fun c130 => ?_)
          · have c130 : h5 50 41 ≠ 0 := c130
            refine nxt 1 ?_ (by decide) (by decide)
            unfold flI
            rw [if_neg (fun z => c130 (by rw [i41]; exact fz.mpr z))]
          · have c130 : h5 50 41 = 0 := c130
            refine nxt 0 ?_ (by decide) (by decide)
            unfold flI
            rw [if_pos (fz.mp (by rw [← i41]; exact c130))]
      refine hX 20 [107] 95 _ _ _ _ _ _ ?_
      refine And.intro (fun c101 => absurd c101 (by omega)) (fun c101 => ?_)
      show X 107 [_, _, _, _, _, _, _] _ _ _ _ _
      exact inner n 0 v h3 (by omega) (by omega) (by omega) k1 k2 k3 rfl
  refine Ok_rt m_byNow ?_
  show X 92 [_, _, _, _, _, _, _] _ _ _ _ _
  refine hX 20 [95] 92 _ _ _ _ _ _ ?_
  exact loopO ns 0 0 _ _ (by omega) (by omega) (by omega) (fun q q0 q1 _ _ => byF_cell q1 _ _ _) (fun q _ _ _ => by rw [byF_cell (by decide)]) (StC_by (fun q => byNow_rd q) (by rw [← g 28 (by decide) (by decide) (by decide)]; exact S2)) rfl
end CHGX
