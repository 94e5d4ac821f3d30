/-! ===== pairs: the six changes ===== -/
/-- what a change of the class leaves -/
def CC (h hk : HP) : Prop := ∀ c, c ≠ 1 → c ≠ 28 → c ≠ 47 → (c < 31 ∨ 45 < c) → hk c = h c
/-- a heap with the class's cell 77 -/
def r77 (hk h2 : HP) : HP := upA h2 77 (hk 77)
section PAIR3
variable {h g hk h1 h2 : HP} {s p r i j c m x y a b v w k : Int} {z pm : Nat} {as : List PV} {new : Nat → Int}
theorem r77_ne {q : Nat} (n : q ≠ 77) : r77 hk h2 q = h2 q := by unfold r77 upA; rw [if_neg n]
theorem r77_c {q : Nat} (e : q ≠ 77 → h2 q = up hk 77 0 w q) : r77 hk h2 q = hk q := by
  by_cases n : q = 77
  · subst n
    unfold r77 upA
    rw [if_pos rfl]
  · rw [r77_ne n, e n, up_cell n]
theorem INV_r77 (H : INV (r77 hk h2)) : INV h2 := INV_fr H (fun q x => by unfold inI at x; exact (r77_ne (by omega)).symm) (fun q _ => by rw [r77_ne (by decide)])
theorem pm_ex (J : JV h) : ∃ pm : Nat, h 50 15 = (pm : Int) ∧ pm ≤ 8 ∧ h 1 10 = (pm : Int) := by
  have a := J.1.2.1.1
  have b := J.1.1.2.2.1
  exact ⟨(h 1 10).toNat, by omega, by omega, by omega⟩
/-- the end of a change -/
theorem ch_end (J : JV h) (cc : CC h hk) (I : ∀ o Λ' h2, chP MO hk pm w new o Λ' h2 → INV h2) (M : Ok z as (LL MO) (up hk 77 0 w) (chP MO (up hk 77 0 w) pm w new)) : fstP qI z as (.inl (some (vI 0))) (LL MO) (up hk 77 0 w) := by
  refine ⟨rfl, 0, rfl, Ok_mono (fun o Λ' h2 P => ?_) M⟩
  obtain ⟨eo, eL, h1, ⟨K1, K2, K3⟩, g1, g2, g3⟩ := P
  have e1 : ∀ c, c ≠ 50 → c ≠ 58 → h1 c = up hk 77 0 w c := fun c a b => (K1 c a b).trans (up_cell a)
  have I2 : INV (r77 hk h2) := by
    refine I o Λ' _ ⟨eo, eL, r77 hk h1, ⟨fun c a b => ?_, fun q hq => ?_, ?_⟩, fun c a b d => ?_, fun q a b d e => ?_, fun i hi => ?_⟩
    · rw [r77_c (fun _ => e1 c a b), up_cell a]
    · rw [r77_ne (by decide)]
      exact K2 q hq
    · rw [r77_ne (by decide), r77_ne (by decide)]
      exact K3
    · by_cases n : c = 77
      · subst n
        unfold r77 upA
        rw [if_pos rfl, if_pos rfl]
      · rw [r77_ne n, r77_ne n]
        exact g1 c a b d
    · rw [r77_ne (by decide), r77_ne (by decide)]
      exact g2 q a b d e
    · rw [r77_ne (by decide)]
      exact g3 i hi
  have f2 : h2 77 = up hk 77 0 w 77 := (g1 77 (by decide) (by decide) (by decide)).trans (e1 77 (by decide) (by decide))
  refine ⟨eL, ⟨INV_r77 I2, RI_fr J.2 (fun c a b => ?_) ?_⟩, ?_, _, eo, w, rfl, fun _ => ?_⟩
  · rw [g1 c (by omega) (by omega) (by omega), e1 c (by omega) (by omega), up_cell (by omega)]
    exact cc c (by omega) (by omega) (by omega) (by omega)
  · rw [g2 22 (by decide) (by decide) (by decide) (by decide), K2 22 (by decide), up_ne (by decide), up_cell (by decide), cc 50 (by decide) (by decide) (by decide) (by decide)]
  · rw [g2 0 (by decide) (by decide) (by decide) (by decide), K2 0 (by decide), up_same]
  · rw [f2, up_same]
theorem cc_c (cc : CC h hk) {c : Nat} (a : c ≠ 1) (b : c ≠ 28) (d : c ≠ 47) (e : c < 31 ∨ 45 < c) (n : c ≠ 77) : up hk 77 0 w c = h c := (up_cell n).trans (cc c a b d e)
theorem TbC_cc (J : JV h) (cc : CC h hk) : TbC (up hk 77 0 w) :=
  TbC_fr (TbC_of J.1.1.1 J.1.1.2.1) (fun c a b => cc_c cc (by omega) (by omega) (by omega) (by omega) (by omega)) (fun c a b => cc_c cc (by omega) (by omega) (by omega) (by omega) (by omega)) (fun j _ _ => by rw [cc_c cc (by decide) (by decide) (by decide) (by decide) (by decide)])
theorem cc_sz (cc : CC h hk) (s : Int) : isSz h s = isSz (up hk 77 0 w) s := by unfold isSz; rw [cc_c cc (c := 21) (by decide) (by decide) (by decide) (by decide) (by decide)]
theorem cc_ms (cc : CC h hk) (s : Int) : isMs h s = isMs (up hk 77 0 w) s := by unfold isMs; rw [cc_c cc (c := 21) (by decide) (by decide) (by decide) (by decide) (by decide)]
theorem cc_pc (cc : CC h hk) (s : Int) : isPc h s = isPc (up hk 77 0 w) s := by unfold isPc; rw [cc_c cc (c := 21) (by decide) (by decide) (by decide) (by decide) (by decide)]
theorem cc_pa (cc : CC h hk) (s k : Int) : isPa h s k = isPa (up hk 77 0 w) s k := by unfold isPa; rw [cc_c cc (c := 25) (by decide) (by decide) (by decide) (by decide) (by decide)]
theorem cc_50 (cc : CC h hk) (q : Nat) : up hk 77 0 w 50 q = h 50 q := by rw [cc_c cc (by decide) (by decide) (by decide) (by decide) (by decide)]
theorem cc_57 (cc : CC h hk) (q : Nat) : up hk 77 0 w 57 q = h 57 q := by rw [cc_c cc (by decide) (by decide) (by decide) (by decide) (by decide)]
theorem rd_at {f : Nat → Int} {len : Nat} {i : Int} (h0 : 0 ≤ i) (h1 : i < (len : Int)) : rd f len i = f i.toNat := by unfold rd; rw [if_pos ⟨h0, h1⟩]
theorem P_setValue (J : JV h) : Ok 308 [vR 1, vI m, vI s, vI x, vR 77] (LL MO) h (fstP qI 260 [vR 50, vI m, vI s, vI x]) := by
  by_cases hx : isMs h m ∧ isSz h s
  · by_cases hy : 0 ≤ x ∧ x ≤ 3000
    · obtain ⟨pm, hp, h8, -⟩ := pm_ex J
      have cc : CC h (wrA (remH h) 28 132 (24 + m * 6 + s) x) := fun c c1 c28 c47 _ => by rw [wrA_cell c28, remH_cell c1 c47]
      refine LW_setValue (K_setValue J.1.1.1 J.1.1.2.2 hx.1 hx.2 hy) (fun o Λ' g P => ⟨P.2.1, Or.inl ⟨_, P.1, ?_⟩⟩)
      rw [P.2.2]
      refine ch_end J cc (fun o Λ' h2 Q => INV_setValue J.1 hp hx.1 hx.2 hy rfl Q) ?_
      have bm := J.1.1.1.1.2.1
      have bs := J.1.1.1.1.1
      have m0 := hx.1.1
      have m1 := hx.1.2
      have s0 := hx.2.1
      have s1 := hx.2.2
      have ev : up (wrA (remH h) 28 132 (24 + m * 6 + s) x) 77 0 (cVal (h 28) m s) 57 (4 + 6 * m + s).toNat = cVal (h 28) m s := by
        have e := J.1.1.2.1.2.2.2.2.1 m s m0 (by omega) s0 (by omega)
        rw [rd_at (by omega) (by omega)] at e
        exact (cc_57 cc _).trans e
      have M := m_setValue (M := MO) (TbC_cc (w := cVal (h 28) m s) J cc) ((cc_50 cc 15).trans hp) h8 (by rw [← cc_ms cc]; exact hx.1) (by rw [← cc_sz cc]; exact hx.2) hy
      rw [ev] at M
      exact M
    · exact LW_setValue (K_setValue_y hx.1 hx.2 hy) (fun o Λ' g P => ⟨P.2.1, Or.inr (Or.inr ⟨P.1, p_e J (FrQ_eq P.2.2) (by decide) (fun h1 S J1 => by
        rw [sq_ms S, sq_sz S] at hx
        exact m_setValue_y (TbC_of J1.1.1.1 J1.1.1.2.1) hx.1 hx.2 hy)⟩)⟩)
  · exact LW_setValue (K_setValue_x hx) (fun o Λ' g P => ⟨P.2.1, Or.inr (Or.inl ⟨P.1, p_e J (FrQ_eq P.2.2) (by decide) (fun h1 S J1 => by
      rw [sq_ms S, sq_sz S] at hx
      exact m_setValue_x (TbC_of J1.1.1.1 J1.1.1.2.1) hx)⟩)⟩)
theorem P_setEase (J : JV h) : Ok 310 [vR 1, vI p, vI k, vI x, vR 77] (LL MO) h (fstP qI 262 [vR 50, vI p, vI k, vI x]) := by
  by_cases hx : isPc h p ∧ isPa h p k
  · by_cases hy : -999 ≤ x ∧ x ≤ 999
    · have bp := J.1.1.1.1.2.2.2.1
      have p0 := hx.1.1
      have p1 := hx.1.2
      have bk := J.1.1.1.1.2.2.2.2.2 p p0 p1
      have k0 := hx.2.1
      have k1 := hx.2.2
      have po := bk.2 k k0 k1
      by_cases hw : cF (h 26) p k 2 = -1
      · have hkd : cF (h 26) p k 0 = 1 := by
          by_cases y : cF (h 26) p k 0 = 1
          · exact y
          · have := (po.2.2.2.2.1 y).1
            omega
        exact LW_setEase (K_setEase_w J.1.1.1 hx.1 hx.2 hy hw) (fun o Λ' g P => ⟨P.2.1, Or.inr (Or.inr (Or.inr ⟨P.1, p_e J (FrQ_eq P.2.2) (by decide) (fun h1 S J1 => by
          rw [sq_pc S, sq_pa S] at hx
          rw [sq_c S (c := 26) (by decide) (by decide)] at hkd
          exact m_setEase_w (TbC_of J1.1.1.1 J1.1.1.2.1) hx.1 hx.2 hy hkd)⟩))⟩)
      · have hkd : cF (h 26) p k 0 ≠ 1 := fun y => hw (po.2.2.2.1 y).1
        obtain ⟨pm, hp, h8, -⟩ := pm_ex J
        have cc : CC h (wrA (remH h) 28 132 (72 + p * 10 + k) x) := fun c c1 c28 c47 _ => by rw [wrA_cell c28, remH_cell c1 c47]
        refine LW_setEase (K_setEase J.1.1.1 J.1.1.2.2 hx.1 hx.2 hy hw) (fun o Λ' g P => ⟨P.2.1, Or.inl ⟨_, P.1, ?_⟩⟩)
        rw [P.2.2]
        refine ch_end J cc (fun o Λ' h2 Q => INV_setEase J.1 hp hx.1 hx.2 hy rfl Q) ?_
        have ev : up (wrA (remH h) 28 132 (72 + p * 10 + k) x) 77 0 (rd (h 28) 132 (72 + p * 10 + k)) 57 (52 + 10 * p + k).toNat = rd (h 28) 132 (72 + p * 10 + k) := by
          have e := J.1.1.2.1.2.2.2.2.2.1 p k p0 (by omega) k0 (by omega)
          rw [rd_at (f := h 57) (by omega) (by omega)] at e
          exact (cc_57 cc _).trans e
        have M := m_setEase (M := MO) (TbC_cc (w := rd (h 28) 132 (72 + p * 10 + k)) J cc) ((cc_50 cc 15).trans hp) h8 (by rw [← cc_pc cc]; exact hx.1) (by rw [← cc_pa cc]; exact hx.2) hy (by rw [cc_c cc (c := 26) (by decide) (by decide) (by decide) (by decide) (by decide)]; exact hkd)
        rw [ev] at M
        exact M
    · exact LW_setEase (K_setEase_y hx.1 hx.2 hy) (fun o Λ' g P => ⟨P.2.1, Or.inr (Or.inr (Or.inl ⟨P.1, p_e J (FrQ_eq P.2.2) (by decide) (fun h1 S J1 => by
        rw [sq_pc S, sq_pa S] at hx
        exact m_setEase_y (TbC_of J1.1.1.1 J1.1.1.2.1) hx.1 hx.2 hy)⟩))⟩)
  · exact LW_setEase (K_setEase_x hx) (fun o Λ' g P => ⟨P.2.1, Or.inr (Or.inl ⟨P.1, p_e J (FrQ_eq P.2.2) (by decide) (fun h1 S J1 => by
      rw [sq_pc S, sq_pa S] at hx
      exact m_setEase_x (TbC_of J1.1.1.1 J1.1.1.2.1) hx)⟩)⟩)
theorem P_addLot (J : JV h) : Ok 311 [vR 1, vI c, vI m, vR 77] (LL MO) h (fstP qI 263 [vR 50, vI c, vI m]) := by
  by_cases hx : (0 ≤ c ∧ c ≤ 3) ∧ 1 ≤ m ∧ m ≤ 9999
  · have e3 : h 57 3 = rd (h 28) 132 3 := by
      have e := J.1.1.2.1.2.2.2.1.2.2.2
      rw [rd_at (f := h 57) (by decide) (by decide)] at e
      exact e
    by_cases hl : rd (h 28) 132 3 < 10
    · obtain ⟨pm, hp, h8, -⟩ := pm_ex J
      have lb := J.1.1.1.2.2.2.2.1
      obtain ⟨l, el⟩ := Int.eq_ofNat_of_zero_le lb.1
      have cc : CC h (addLH h c m) := fun c c1 c28 c47 _ => by unfold addLH; rw [wrA_cell c28, wrA_cell c28, wrA_cell c28, remH_cell c1 c47]
      refine LW_addLot (K_addLot J.1.1.1 J.1.1.2.2 hx.1 hx.2 hl) (fun o Λ' g P => ⟨P.2.1, Or.inl ⟨_, P.1, ?_⟩⟩)
      rw [P.2.2]
      refine ch_end J cc (fun o Λ' h2 Q => INV_addLot (l := l) J.1 hp hx.1 hx.2 el (by omega) rfl Q) ?_
      have M := m_addLot (M := MO) (h := up (addLH h c m) 77 0 (rd (h 28) 132 3)) ((cc_50 cc 15).trans hp) h8 hx.1 hx.2 (l := l) ((cc_57 cc 3).trans (e3.trans el)) (by omega)
      have e : (l : Int) = rd (h 28) 132 3 := el.symm
      have M2 : Ok 263 [vR 50, vI c, vI m] (LL MO) (up (addLH h c m) 77 0 (rd (h 28) 132 3)) (chP MO (up (addLH h c m) 77 0 (rd (h 28) 132 3)) pm (rd (h 28) 132 3) (fun i => if i = 3 then (l : Int) + 1 else if i = 112 + 2 * l + 1 then m else if i = 112 + 2 * l then c else up (addLH h c m) 77 0 (rd (h 28) 132 3) 57 i)) := by
        rw [el] at M ⊢
        exact M
      exact M2
    · exact LW_addLot (K_addLot_y hx.1 hx.2 hl) (fun o Λ' g P => ⟨P.2.1, Or.inr (Or.inr ⟨P.1, p_e J (FrQ_eq P.2.2) (by decide) (fun h1 S J1 => by
        rw [← e3, sq_c S (c := 57) (by decide) (by decide)] at hl
        exact m_addLot_y hx.1 hx.2 hl)⟩)⟩)
  · exact LW_addLot (K_addLot_x hx) (fun o Λ' g P => ⟨P.2.1, Or.inr (Or.inl ⟨P.1, p_e J (FrQ_eq P.2.2) (by decide) (fun h1 S J1 => m_addLot_x hx)⟩)⟩)
theorem P_removeLot (J : JV h) : Ok 312 [vR 1, vI i, vR 77] (LL MO) h (fstP qI 264 [vR 50, vI i]) := by
  have e3 : h 57 3 = rd (h 28) 132 3 := by
    have e := J.1.1.2.1.2.2.2.1.2.2.2
    rw [rd_at (f := h 57) (by decide) (by decide)] at e
    exact e
  have lb := J.1.1.1.2.2.2.2.1
  by_cases hx : isLt h i
  · obtain ⟨pm, hp, h8, -⟩ := pm_ex J
    obtain ⟨l, el⟩ := Int.eq_ofNat_of_zero_le lb.1
    obtain ⟨t, rfl⟩ := Int.eq_ofNat_of_zero_le hx.1
    have hx2 := hx.2
    have tl : t < l := by omega
    have cc : CC h (wrA (dropS (rd (h 28) 132 3 - 1 - (t : Int)).toNat (t : Int) (remH h)) 28 132 3 (rd (h 28) 132 3 - 1)) := fun c c1 c28 c47 _ => by
      rw [wrA_cell c28, (dropS_spec _ _ _ (by omega)).1 c c28, remH_cell c1 c47]
    refine LW_removeLot (K_removeLot J.1.1.1 J.1.1.2.2 hx) (fun o Λ' g P => ⟨P.2.1, Or.inl ⟨_, P.1, ?_⟩⟩)
    rw [P.2.2]
    refine ch_end J cc (fun o Λ' h2 Q => INV_removeLot (l := l) (t := t) J.1 hp el tl rfl Q) ?_
    have ev : up (wrA (dropS (rd (h 28) 132 3 - 1 - (t : Int)).toNat (t : Int) (remH h)) 28 132 3 (rd (h 28) 132 3 - 1)) 77 0 (rd (h 28) 132 (14 + (t : Int))) 57 (112 + 2 * t + 1) = rd (h 28) 132 (14 + (t : Int)) := by
      have e := (J.1.1.2.1.2.2.2.2.2.2 (t : Int) (by omega) (by omega)).2
      rw [rd_at (f := h 57) (by omega) (by omega), show (112 + 2 * (t : Int) + 1).toNat = 112 + 2 * t + 1 by omega] at e
      exact (cc_57 cc _).trans e
    have M := m_removeLot (M := MO) (h := up (wrA (dropS (rd (h 28) 132 3 - 1 - (t : Int)).toNat (t : Int) (remH h)) 28 132 3 (rd (h 28) 132 3 - 1)) 77 0 (rd (h 28) 132 (14 + (t : Int)))) ((cc_50 cc 15).trans hp) h8 (l := l) (k := t) ((cc_57 cc 3).trans (e3.trans el)) (by omega) tl
    rw [ev] at M
    exact M
  · exact LW_removeLot (K_removeLot_x hx) (fun o Λ' g P => ⟨P.2.1, Or.inr ⟨P.1, p_e J (FrQ_eq P.2.2) (by decide) (fun h1 S J1 => by
      have hl : 0 ≤ h 57 3 ∧ h 57 3 ≤ 10 := by omega
      have hx' : ¬ (0 ≤ i ∧ i < h 57 3) := by rw [e3]; exact hx
      rw [sq_c S (c := 57) (by decide) (by decide)] at hl hx'
      exact m_removeLot_x hl hx')⟩⟩)
theorem gradeH_cell {m x y : Int} {q : Nat} (n : q ≠ 28) : ∀ (f : Nat) (t : Int) (g : HP), gradeH m x y f t g q = g q
  | 0, _, _ => rfl
  | f + 1, t, g => by
    unfold gradeH
    rw [gradeH_cell n f, wrA_cell n]
theorem P_grade (J : JV h) (hxr : inR x) (hyr : inR y) : Ok 309 [vR 1, vI m, vI x, vI y, vR 77] (LL MO) h (fstP qI 261 [vR 50, vI m, vI x, vI y]) := by
  by_cases hm : isMs h m
  · obtain ⟨ns, hns, n6⟩ := nd_s J.1.1.1
    have n1 : 1 ≤ ns := by have := J.1.1.1.1.1.1; omega
    have ga := gr_all (x := x) (y := y) n1 n6
    by_cases hy : (0 ≤ x ∧ x ≤ 3000) ∧ 0 ≤ x + y * ((ns : Int) - 1) ∧ x + y * ((ns : Int) - 1) ≤ 3000
    · obtain ⟨pm, hp, h8, -⟩ := pm_ex J
      have cc : CC h (gradeH m x y ns 0 (remH h)) := fun c c1 c28 c47 _ => by rw [gradeH_cell c28, remH_cell c1 c47]
      refine LW_grade (K_grade J.1.1.1 J.1.1.2.2 hm hy.1 hns hy.2 hyr) (fun o Λ' g P => ⟨P.2.1, Or.inl ⟨_, P.1, ?_⟩⟩)
      rw [P.2.2]
      refine ch_end J cc (fun o Λ' h2 Q => INV_grade J.1 hp hm hns (ga.mpr hy) rfl Q) ?_
      have M := m_grade (M := MO) (TbC_cc (w := x + y * ((ns : Int) - 1)) J cc) ((cc_50 cc 15).trans hp) h8 (by rw [← cc_ms cc]; exact hm) (by rw [cc_c cc (c := 21) (by decide) (by decide) (by decide) (by decide) (by decide)]; exact hns) (ga.mpr hy) hyr
      rw [Int.mul_comm ((ns : Int) - 1) y] at M
      exact M
    · exact LW_grade (K_grade_y J.1.1.1 hm hns hy hyr hxr) (fun o Λ' g P => ⟨P.2.1, Or.inr (Or.inr ⟨P.1, p_e J (FrQ_eq P.2.2) (by decide) (fun h1 S J1 => by
        rw [sq_ms S] at hm
        rw [sq_c S (c := 21) (by decide) (by decide)] at hns
        exact m_grade_y (TbC_of J1.1.1.1 J1.1.1.2.1) hm hns (fun z => hy (ga.mp z)) hxr hyr)⟩)⟩)
  · exact LW_grade (K_grade_x hm) (fun o Λ' g P => ⟨P.2.1, Or.inr (Or.inl ⟨P.1, p_e J (FrQ_eq P.2.2) (by decide) (fun h1 S J1 => by
      rw [sq_ms S] at hm
      exact m_grade_x (TbC_of J1.1.1.1 J1.1.1.2.1) hm)⟩)⟩)
theorem fpI_S (S : Sq h h1) (s : Int) : ∀ (m q : Nat) (a : Int), fpI h s m q a = fpI h1 s m q a
  | 0, _, _ => rfl
  | m + 1, q, a => by
    unfold fpI
    have e : flI h s (q : Int) = flI h1 s (q : Int) := by unfold flI; rw [sq_gD S, sq_gN S]
    rw [e]
    exact fpI_S S s m _ _
theorem fpO_S (S : Sq h h1) (n : Nat) : ∀ (m t : Nat) (a : Int), fpO h n m t a = fpO h1 n m t a
  | 0, _, _ => rfl
  | m + 1, t, a => by
    unfold fpO
    rw [fpI_S S]
    exact fpO_S S n m _ _
theorem P_setGauge (J : JV h) : Ok 307 [vR 1, vI a, vI b, vI c, vR 77] (LL MO) h (fstP qI 259 [vR 50, vI a, vI b, vI c]) := by
  by_cases hx : (5 ≤ a ∧ a ≤ 99) ∧ (5 ≤ b ∧ b ≤ 99) ∧ 1 ≤ c ∧ c ≤ 99
  · obtain ⟨ha, hb, hc⟩ := hx
    obtain ⟨ns, hns, -⟩ := nd_s J.1.1.1
    obtain ⟨n, hn, -⟩ := nd_n J.1.1.1
    obtain ⟨pm, hp, h8, -⟩ := pm_ex J
    have so := gauge_SO J.1 ha hb hc
    refine LW_setGauge (K_setGauge J.1.1.1 J.1.1.2.2 ha hb hc so hn hns) (fun o Λ' g P => ⟨P.2.1, Or.inl ⟨_, P.1, ?_⟩⟩)
    have cc : CC h g := fun c c1 c28 c47 c0 => by rw [P.2.2 c c0]; unfold gaugeH; rw [wrA_cell c28, wrA_cell c28, wrA_cell c28, remH_cell c1 c47]
    refine ch_end J cc (fun o Λ' h2 Q => INV_setGauge J.1 hp ha hb hc P.2.2 Q) ?_
    have S := Sq_up (j := 77) (i := 0) (v := fpO (gaugeH h a b c) n ns 0 0) (Sq_Q P.2.2) (by decide)
    have e28 : up g 77 0 (fpO (gaugeH h a b c) n ns 0 0) 28 = gaugeH h a b c 28 := (sq_c S (c := 28) (by decide) (by decide)).symm
    have e21 : up g 77 0 (fpO (gaugeH h a b c) n ns 0 0) 21 = h 21 := cc_c cc (by decide) (by decide) (by decide) (by decide) (by decide)
    have C1 : CI (up g 77 0 (fpO (gaugeH h a b c) n ns 0 0)) := by
      refine ⟨?_, by rw [e28]; exact so⟩
      have q := J.1.1.1.1
      rw [e21, cc_c cc (c := 22) (by decide) (by decide) (by decide) (by decide) (by decide), cc_c cc (c := 23) (by decide) (by decide) (by decide) (by decide) (by decide), cc_c cc (c := 24) (by decide) (by decide) (by decide) (by decide) (by decide), cc_c cc (c := 25) (by decide) (by decide) (by decide) (by decide) (by decide), cc_c cc (c := 26) (by decide) (by decide) (by decide) (by decide) (by decide)]
      exact q
    have M := m_setGauge (M := MO) (TbC_cc (w := fpO (gaugeH h a b c) n ns 0 0) J cc) C1 ((cc_50 cc 15).trans hp) h8 ha hb hc (by rw [e21]; exact hn) (by rw [e21]; exact hns) (by
      rw [e28, cc_c cc (c := 57) (by decide) (by decide) (by decide) (by decide) (by decide)]
      exact gauge_S J.1)
    rw [← fpO_S S] at M
    exact M
  · exact LW_setGauge (K_setGauge_x hx) (fun o Λ' g P => ⟨P.2.1, Or.inr ⟨P.1, p_e J (FrQ_eq P.2.2) (by decide) (fun h1 S J1 => m_setGauge_x hx)⟩⟩)
end PAIR3
