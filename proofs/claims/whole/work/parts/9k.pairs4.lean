/-! ===== pairs: undo, save, restore, differences, the text, find, load ===== -/
section PAIR4
variable {h g hk h1 h2 : HP} {s p r i j c m x y a b d e v w k : Int} {z pm : Nat} {as : List PV}
theorem slot_in {i : Int} (hx : 0 ≤ i ∧ i < 2) : ∃ t : Nat, t < 2 ∧ i = (t : Int) := ⟨i.toNat, by omega, by omega⟩
theorem undoH_cell {q : Nat} (a : q ≠ 1) (b : q ≠ 28) : undoH h q = h q := by unfold undoH; rw [cpA_cell b, up_cell a, up_cell a]
theorem P_undo (J : JV h) : Ok 313 [vR 1, vR 77] (LL MO) h (fstP qI 265 [vR 50]) := by
  obtain ⟨pm, hp, h8, h10⟩ := pm_ex J
  by_cases hx : 1 ≤ h 1 10
  · obtain ⟨q, rfl⟩ : ∃ q : Nat, pm = q + 1 := ⟨pm - 1, by omega⟩
    refine LW_undo (K_undo J.1.1.2.2 hx) (fun o Λ' g P => ⟨P.2.1, Or.inl ⟨_, P.1, ?_⟩⟩)
    rw [P.2.2]
    have ew : h 1 10 - 1 = (q : Int) := by omega
    rw [ew]
    have e50 : up (undoH h) 77 0 (q : Int) 50 = h 50 := (up_cell (by decide)).trans (undoH_cell (by decide) (by decide))
    have hp1 : h 50 15 = (q : Int) + 1 := by omega
    refine ⟨rfl, 0, rfl, Ok_mono (fun o Λ' h2 Q => ?_) (m_undo (M := MO) (h := up (undoH h) 77 0 (q : Int)) (pm := q) (by rw [e50]; exact hp1) (by omega))⟩
    obtain ⟨eo, eL, g1, g2, g3, g4, g5⟩ := Q
    have I2 : INV (r77 (undoH h) h2) := by
      refine INV_undo (pm := q) J.1 hp1 (fun c a b => r77_c (fun _ => g1 c a b)) (fun f a b => ?_) ?_ (fun i hi => ?_)
      · rw [r77_ne (by decide), g2 f a b, up_cell (by decide)]
      · rw [r77_ne (by decide)]
        exact g4
      · rw [r77_ne (by decide), g5 i hi, up_cell (by decide)]
    refine ⟨eL, ⟨INV_r77 I2, RI_fr J.2 (fun c a b => ?_) ?_⟩, g3, _, eo, _, rfl, fun _ => ?_⟩
    · rw [g1 c (by omega) (by omega), up_cell (by omega), undoH_cell (by omega) (by omega)]
    · rw [g2 22 (by decide) (by decide), e50]
    · rw [g1 77 (by decide) (by decide), up_same]
  · exact LW_undo (K_undo_x hx) (fun o Λ' g P => ⟨P.2.1, Or.inr ⟨P.1, p_e J (FrQ_eq P.2.2) (by decide) (fun h1 S J1 => by
      have h0 : h 50 15 = 0 := by omega
      rw [sq_c S (c := 50) (by decide) (by decide)] at h0
      exact m_undo_x h0)⟩⟩)
theorem saveH_cell {q : Nat} (a : q ≠ 1) (b : q ≠ 49) : saveH h s q = h q := by unfold saveH; rw [up_cell a, cpA_cell b]
theorem restH_cell {q : Nat} (a : q ≠ 1) (b : q ≠ 28) : restH h s q = h q := by unfold restH; rw [up_cell a, cpA_cell b]
theorem P_save (J : JV h) : Ok 314 [vR 1, vI i] (LL MO) h (fstP qV 267 [vR 50, vI i]) := by
  by_cases hx : 0 ≤ i ∧ i < 2
  · obtain ⟨t, ht, rfl⟩ := slot_in hx
    refine LW_save (K_save hx) (fun o Λ' g P => ⟨P.2.1, Or.inl ⟨P.1, ?_⟩⟩)
    rw [P.2.2]
    refine ⟨rfl, 0, rfl, Ok_mono (fun o Λ' h2 Q => ?_) (m_save (M := MO) ht)⟩
    obtain ⟨eo, eL, g1, g2, g3, g4, g5, g6, g7⟩ := Q
    refine ⟨eL, ⟨INV_save J.1 ht g1 g2 g4 g5 g6 g7, RI_fr J.2 (fun c a b => ?_) ?_⟩, g3, none, eo, rfl⟩
    · rw [g1 c (by omega) (by omega) (by omega), saveH_cell (by omega) (by omega)]
    · rw [g2 22 (by decide), saveH_cell (by decide) (by decide)]
  · refine LW_save (K_save_x hx) (fun o Λ' g P => ⟨P.2.1, Or.inr ⟨P.1, rfl, 1, rfl, ?_⟩⟩)
    rw [P.2.2]
    exact Ok_mono (fun o Λ' h2 Q => ⟨Q.2.1, JV_M J Q.2.2.1, Q.2.2.2, none, Q.1, rfl⟩) (m_save_x (by omega))
theorem P_restore (J : JV h) : Ok 315 [vR 1, vI i] (LL MO) h (fstP qV 268 [vR 50, vI i]) := by
  by_cases hx : 0 ≤ i ∧ i < 2
  · obtain ⟨t, ht, rfl⟩ := slot_in hx
    have sc := J.1.2.2.1 t ht
    by_cases hv : isSv h (t : Int)
    · have v1 := sc.2.1.mp hv
      refine LW_restore (K_restore hx hv) (fun o Λ' g P => ⟨P.2.1, Or.inl ⟨P.1, ?_⟩⟩)
      rw [P.2.2]
      refine ⟨rfl, 0, rfl, Ok_mono (fun o Λ' h2 Q => ?_) (m_restore (M := MO) ht (by rw [restH_cell (by decide) (by decide)]; exact v1))⟩
      obtain ⟨eo, eL, g1, g2, g3, g4, g5⟩ := Q
      refine ⟨eL, ⟨INV_restore J.1 ht v1 g1 g2 g4 g5, RI_fr J.2 (fun c a b => ?_) ?_⟩, g3, none, eo, rfl⟩
      · rw [g1 c (by omega) (by omega), restH_cell (by omega) (by omega)]
      · rw [g2 22 (by decide) (by decide), restH_cell (by decide) (by decide)]
    · have v0 : h 60 t = 0 := sc.1.resolve_right (fun y => hv (sc.2.1.mpr y))
      refine LW_restore (K_restore_n hx hv) (fun o Λ' g P => ⟨P.2.1, Or.inr (Or.inr ⟨P.1, rfl, 2, rfl, ?_⟩)⟩)
      rw [P.2.2]
      exact Ok_mono (fun o Λ' h2 Q => ⟨Q.2.1, JV_M J Q.2.2.1, Q.2.2.2, none, Q.1, rfl⟩) (m_restore_n ht v0)
  · refine LW_restore (K_restore_x hx) (fun o Λ' g P => ⟨P.2.1, Or.inr (Or.inl ⟨P.1, rfl, 1, rfl, ?_⟩)⟩)
    rw [P.2.2]
    exact Ok_mono (fun o Λ' h2 Q => ⟨Q.2.1, JV_M J Q.2.2.1, Q.2.2.2, none, Q.1, rfl⟩) (m_restore_x (by omega))
theorem cnF_fun {P P' : Nat → Prop} (hp : ∀ q, P q ↔ P' q) : ∀ (m q : Nat) (a r r' : Int), cnF P m q a r → cnF P' m q a r' → r = r'
  | 0, _, _, _, _, x, y => by unfold cnF at *; rw [x, y]
  | m + 1, q, a, r, r', x, y => by
    unfold cnF at *
    rcases x with x | x <;> rcases y with y | y
    · exact cnF_fun hp m _ _ _ _ x.2 y.2
    · exact absurd ((hp q).mp x.1) y.1
    · exact absurd ((hp q).mpr y.1) x.1
    · exact cnF_fun hp m _ _ _ _ x.2 y.2
theorem cnO_fun {P P' : Nat → Nat → Prop} {n : Nat} (hp : ∀ t q, P t q ↔ P' t q) : ∀ (m t : Nat) (a r r' : Int), cnO P n m t a r → cnO P' n m t a r' → r = r'
  | 0, _, _, _, _, x, y => by unfold cnO at *; rw [x, y]
  | m + 1, t, a, r, r', x, y => by
    unfold cnO at *
    obtain ⟨b, x1, x2⟩ := x
    obtain ⟨b', y1, y2⟩ := y
    have e := cnF_fun (hp t) n 0 a b b' x1 y1
    subst e
    exact cnO_fun hp m _ _ _ _ x2 y2
theorem slR_rd {t : Nat} (ht : t < 2) (q : Int) : rd (slR h (t : Int)) 132 q = rd (stRow (h 49) t) 132 q := by
  have e := rdA_cpA (h := h) (a := 49) (la := 264) (b := 30) (lb := 132) (i := (t : Int) * 132) (j := 0) (n := 132) (q := q)
  have e2 : rd (slR h (t : Int)) 132 q = rdA (cpA h 49 264 ((t : Int) * 132) 30 132 0 132) 30 132 q := rfl
  rw [e2, e]
  by_cases z : 0 ≤ q ∧ q < 132
  · rw [if_pos (by omega), rdA_in (by omega) (by omega), rd_at (by omega) (by omega)]
    unfold stRow
    congr 1
    omega
  · rw [if_neg (by omega), rdA_out (by omega)]
    unfold rd
    rw [if_neg (by omega)]
theorem P_differences (J : JV h) : Ok 316 [vR 1, vI i, vR 77] (LL MO) h (fstP qI 270 [vR 50, vI i]) := by
  by_cases hx : 0 ≤ i ∧ i < 2
  · obtain ⟨t, ht, rfl⟩ := slot_in hx
    have sc := J.1.2.2.1 t ht
    by_cases hv : isSv h (t : Int)
    · have v1 := sc.2.1.mp hv
      obtain ⟨ns, hns, -⟩ := nd_s J.1.1.1
      obtain ⟨n, hn, -⟩ := nd_n J.1.1.1
      obtain ⟨s1, s2⟩ := sc.2.2 v1
      have SO : StOK (slR h (t : Int)) := StOK_cg (slR_rd ht) s2
      refine LW_differences (K_differences J.1.1.1 hx hv SO hn hns) (fun o Λ' g P => ⟨P.1, ?_⟩)
      obtain ⟨-, F, r, eo, O⟩ := P
      refine Or.inl ⟨r, eo, rfl, 0, rfl, ?_⟩
      have S : Sq h (up g 77 0 r) := fun c a b => (up_cell (by omega)).trans (F c b)
      have J1 := JV_Sq J S
      have B1 : StC (fun i => up g 77 0 r 59 (132 * t + i)) (slR h (t : Int)) := by
        rw [S 59 (by decide) (by decide)]
        exact StC_cg (fun _ => rfl) (slR_rd ht) s1
      refine Ok_mono (fun o Λ' h2 Q => ?_) (m_differences (M := MO) J1.1.1.1 J1.1.1.2.1 ht (by rw [S 60 (by decide) (by decide)]; exact v1) SO B1 (by rw [S 21 (by decide) (by decide)]; exact hn) (by rw [S 21 (by decide) (by decide)]; exact hns))
      obtain ⟨eL, f, e0, r', eo', O'⟩ := Q
      have er : r = r' := by
        refine cnO_fun (fun a b => ?_) ns 0 0 r r' O O'
        unfold difP dfM gE
        rw [← sq_gD S, ← sq_gN S, S 22 (by decide) (by decide), S 23 (by decide) (by decide), S 24 (by decide) (by decide), S 26 (by decide) (by decide)]
      exact ⟨eL, JV_M J1 f, e0, _, eo', r', rfl, fun _ => ((FrM_77 f 0).trans up_same).trans er⟩
    · have v0 : h 60 t = 0 := sc.1.resolve_right (fun y => hv (sc.2.1.mpr y))
      exact LW_differences (K_differences_n hx hv) (fun o Λ' g P => ⟨P.2.1, Or.inr (Or.inr ⟨P.1, p_e J (FrQ_eq P.2.2) (by decide) (fun h1 S J1 => by
        rw [sq_c S (c := 60) (by decide) (by decide)] at v0
        exact m_differences_n ht v0)⟩)⟩)
  · exact LW_differences (K_differences_x hx) (fun o Λ' g P => ⟨P.2.1, Or.inr (Or.inl ⟨P.1, p_e J (FrQ_eq P.2.2) (by decide) (fun h1 S J1 => m_differences_x (by omega))⟩)⟩)
theorem P_truncate (J : JV h) : Ok 283 [vR 1, vI i, vR 77] (LL MO) h (fstP qI 179 [vR 50, vI i]) := by
  have t17 := J.1.2.2.2.1.1.1
  by_cases hx : 0 ≤ i ∧ i ≤ h 2 1
  · refine LW_truncate (K_truncate hx) (fun o Λ' g P => ⟨P.2.1, Or.inl ⟨_, P.1, ?_⟩⟩)
    rw [P.2.2]
    have e50 : up (up h 2 1 i) 77 0 i 50 = h 50 := (up_cell (by decide)).trans (up_cell (by decide))
    refine ⟨rfl, 0, rfl, Ok_rt (m_truncate (M := MO) (by rw [e50, t17]; exact hx)) ?_⟩
    have I := INV_truncate (i := i) J.1 hx
    refine ⟨rfl, ⟨INV_fr I (fun c x => ?_) (fun q x => rfl), RI_fr J.2 (fun c a b => ?_) ?_⟩, ?_, _, rfl, _, rfl, fun _ => rfl⟩
    · by_cases n : c = 50
      · subst n
        rfl
      · unfold inI at x
        rw [up_cell n, up_cell n, up_cell (by omega), up_cell n, up_cell n]
    · rw [up_cell (by omega), up_cell (by omega), up_cell (by omega), up_cell (by omega)]
    · rfl
    · rfl
  · exact LW_truncate (K_truncate_x hx) (fun o Λ' g P => ⟨P.2.1, Or.inr ⟨P.1, p_e J (FrQ_eq P.2.2) (by decide) (fun h1 S J1 => by
      rw [← t17, sq_c S (c := 50) (by decide) (by decide)] at hx
      exact m_truncate_x hx)⟩⟩)
theorem P_append (J : JV h) (ha : inR a) (hb : inR b) (hc : inR c) (hd : inR d) (he : inR e) : Ok 282 [vR 1, vI a, vI b, vI c, vI d, vI e, vR 77] (LL MO) h (fstP qI 178 [vR 50, vI a, vI b, vI c, vI d, vI e]) := by
  have t17 := J.1.2.2.2.1.1.1
  have tb := J.1.2.2.2.1.1.2
  by_cases hx : h 2 1 ≤ 1480
  · obtain ⟨n, hn⟩ := Int.eq_ofNat_of_zero_le tb.1
    obtain ⟨s1, -, s3, -⟩ := apB_spec (bs20 a b c d e) h n hn (show n + 20 ≤ 1500 by omega)
    have e21 : addFH (addFH (addFH (addFH (addFH h a) b) c) d) e 2 1 = (n : Int) + 20 := by
      rw [add_20, s3]
      rfl
    refine LW_append (K_append hx) (fun o Λ' g P => ⟨P.2.1, Or.inl ⟨_, P.1, ?_⟩⟩)
    rw [P.2.2, e21, add_20]
    have e50 : up (apB h (bs20 a b c d e)) 77 0 ((n : Int) + 20) 50 = h 50 := (up_cell (by decide)).trans (s1 50 (by decide) (by decide))
    refine ⟨rfl, 0, rfl, Ok_mono (fun o Λ' h2 Q => ?_) (m_append (M := MO) (n := n) (by rw [e50, t17]; exact hn) (by omega))⟩
    obtain ⟨eo, eL, g1, g2, g3, g4, g5, g6⟩ := Q
    have I2 : INV (r77 (apB h (bs20 a b c d e)) h2) := by
      refine INV_append J.1 hn (by omega) ha hb hc hd he (fun c a b => r77_c (fun _ => g1 c a b)) (fun f a b => ?_) ?_ (fun q hq => ?_) (fun k hk => ?_)
      · rw [r77_ne (by decide), g2 f a b, up_cell (by decide)]
      · rw [r77_ne (by decide)]
        exact g4
      · rw [r77_ne (by decide), g5 q hq, up_cell (by decide)]
      · rw [r77_ne (by decide)]
        exact g6 k hk
    refine ⟨eL, ⟨INV_r77 I2, RI_fr J.2 (fun c a b => ?_) ?_⟩, g3, _, eo, _, rfl, fun _ => ?_⟩
    · rw [g1 c (by omega) (by omega), up_cell (by omega), s1 c (by omega) (by omega)]
    · rw [g2 22 (by decide) (by decide), e50]
    · rw [g1 77 (by decide) (by decide), up_same]
  · exact LW_append (K_append_x (by omega)) (fun o Λ' g P => ⟨P.2.1, Or.inr ⟨P.1, p_e J (FrQ_eq P.2.2) (by decide) (fun h1 S J1 => by
      have a1 : 1480 < h 50 17 := by omega
      have a2 : h 50 17 ≤ 1500 := by omega
      rw [sq_c S (c := 50) (by decide) (by decide)] at a1 a2
      exact m_append_x a1 a2)⟩⟩)
theorem P_find (J : JV h) : Ok 285 [vR 1, vI i, vR 77] (LL MO) h (fstP qI 211 [vR 50, vI i]) := by
  have tb := J.1.2.2.2.1.1.2
  have t17 := J.1.2.2.2.1.1.1
  by_cases hx : 0 ≤ i ∧ i ≤ 3
  · obtain ⟨t, rfl⟩ := Int.eq_ofNat_of_zero_le hx.1
    have t4 : t < 4 := by omega
    obtain ⟨n, hn⟩ := Int.eq_ofNat_of_zero_le tb.1
    have PO := J.1.1.1.1
    have CT := J.1.1.2.1.1
    obtain ⟨m, hm, hm1, hm2⟩ : ∃ m : Nat, rd (h 21) 4 (t : Int) = (m : Int) ∧ h 50 (1 + t) = (m : Int) ∧ fsI t + m ≤ 24 := by
      have b0 := PO.1
      have b1 := PO.2.1
      have b2 := PO.2.2.1
      have b3 := PO.2.2.2.1
      have c4 : t = 0 ∨ t = 1 ∨ t = 2 ∨ t = 3 := by omega
      rcases c4 with rfl | rfl | rfl | rfl
      · exact ⟨(rd (h 21) 4 0).toNat, (Int.toNat_of_nonneg (show 0 ≤ rd (h 21) 4 0 by omega)).symm, CT.1.trans (Int.toNat_of_nonneg (show 0 ≤ rd (h 21) 4 0 by omega)).symm, show 0 + _ ≤ 24 by omega⟩
      · exact ⟨(rd (h 21) 4 1).toNat, (Int.toNat_of_nonneg (show 0 ≤ rd (h 21) 4 1 by omega)).symm, CT.2.1.trans (Int.toNat_of_nonneg (show 0 ≤ rd (h 21) 4 1 by omega)).symm, show 6 + _ ≤ 24 by omega⟩
      · exact ⟨(rd (h 21) 4 2).toNat, (Int.toNat_of_nonneg (show 0 ≤ rd (h 21) 4 2 by omega)).symm, CT.2.2.1.trans (Int.toNat_of_nonneg (show 0 ≤ rd (h 21) 4 2 by omega)).symm, show 14 + _ ≤ 24 by omega⟩
      · exact ⟨(rd (h 21) 4 3).toNat, (Int.toNat_of_nonneg (show 0 ≤ rd (h 21) 4 3 by omega)).symm, CT.2.2.2.trans (Int.toNat_of_nonneg (show 0 ≤ rd (h 21) 4 3 by omega)).symm, show 18 + _ ≤ 24 by omega⟩
    have fin : ∀ h1 : HP, (∀ c, c ≠ 77 → h1 c = up h 2 1 0 c) → Ok 211 [vR 50, vI (t : Int)] (LL MO) h1 (fun o Λ' h' => Λ' = LL MO ∧ JV h' ∧ h' 77 = h1 77 ∧ ((fndF h (t : Int) = -1 ∧ h' 50 0 = 2 ∧ o = .inl (some (vI 0))) ∨ (fndF h (t : Int) ≠ -1 ∧ h' 50 0 = 0 ∧ o = .inl (some (vI (fndF h (t : Int))))))) := fun h1 hc => by
      have e50 : h1 50 = h 50 := (hc 50 (by decide)).trans (up_cell (by decide))
      refine Ok_mono (fun o Λ' h2 Q => ?_) (m_find (M := MO) (h := h1) (i := t) (len := n) (m := m) t4 (by rw [e50, t17]; exact hn) (by omega) (by rw [e50]; exact hm1) hm2)
      obtain ⟨eL, g1, g2, g3, r, W, A⟩ := Q
      have er : r = fndF h (t : Int) := fnd_eq J.1 t4 hn ((hc 61 (by decide)).trans (up_cell (by decide))) ((hc 56 (by decide)).trans (up_cell (by decide))) (by rw [hm]; exact W)
      have I2 : INV (r77 (up h 2 1 0) h2) := by
        refine INV_find J.1 (fun c a => r77_c (w := 0) (fun n => ?_)) (fun q a b c d f => ?_) ?_
        · rw [g1 c a, hc c n, up_cell n]
        · rw [r77_ne (by decide), g2 q a b c d f, e50]
        · rw [r77_ne (by decide)]
          exact g3
      refine ⟨eL, ⟨INV_r77 I2, RI_fr J.2 (fun c a b => ?_) ?_⟩, g1 77 (by decide), ?_⟩
      · rw [g1 c (by omega), hc c (by omega), up_cell (by omega)]
      · rw [g2 22 (by decide) (by decide) (by decide) (by decide) (by decide), e50]
      · rw [← er]
        exact A
    by_cases hf : fndF h (t : Int) = -1
    · refine LW_find (K_find_n J.1.1.1 hx tb hf) (fun o Λ' g P => ⟨P.2.1, Or.inr (Or.inr ⟨P.1, rfl, 2, rfl, ?_⟩)⟩)
      rw [P.2.2]
      refine Ok_mono (fun o Λ' h2 Q => ?_) (fin _ (fun c _ => rfl))
      rcases Q.2.2.2 with ⟨-, e0, eo⟩ | ⟨y, -⟩
      · exact ⟨Q.1, Q.2.1, e0, _, eo, 0, rfl, fun y => absurd y (by decide)⟩
      · exact absurd hf y
    · refine LW_find (K_find J.1.1.1 hx tb hf) (fun o Λ' g P => ⟨P.2.1, Or.inl ⟨_, P.1, ?_⟩⟩)
      rw [P.2.2]
      refine ⟨rfl, 0, rfl, Ok_mono (fun o Λ' h2 Q => ?_) (fin _ (fun c n => up_cell n))⟩
      rcases Q.2.2.2 with ⟨y, -⟩ | ⟨-, e0, eo⟩
      · exact absurd y hf
      · exact ⟨Q.1, Q.2.1, e0, _, eo, _, rfl, fun _ => by rw [Q.2.2.1, up_same]⟩
  · exact LW_find (K_find_x hx) (fun o Λ' g P => ⟨P.2.1, Or.inr (Or.inl ⟨P.1, p_e J (FrQ_eq P.2.2) (by decide) (fun h1 S J1 => m_find_x hx)⟩)⟩)
theorem P_load (J : JV h) : Ok 284 [vR 1, vR 77] (LL MO) h (fstP qI 207 [vR 50]) := by
  obtain ⟨⟨t17, t2⟩, t61⟩ := J.1.2.2.2.1
  obtain ⟨⟨TK, hr, hp⟩, nb⟩ := J.2
  have rc : ∀ c, (c < 4 ∨ 18 < c) → rtE h c = h c := fun c hc => rtE_cell t2 TK hr hp hc
  have tx : ∀ i : Nat, (i : Int) < h 2 1 → h 61 i = txB h i := fun i hi => by
    rw [t61 i hi]
    unfold txB
    rw [if_pos ⟨by omega, hi, by omega⟩]
    rfl
  by_cases z : rtE h 4 10 = 0
  · refine LW_load (K_load t2 TK hr hp z) (fun o Λ' g P => ⟨P.2.1, Or.inl ⟨_, P.1, ?_⟩⟩)
    rw [P.2.2]
    have c50 : ldH h 50 = h 50 := (ldH_cell (by decide) (by decide) (by decide) (by decide)).trans (rc 50 (by decide))
    have c61 : ldH h 61 = h 61 := (ldH_cell (by decide) (by decide) (by decide) (by decide)).trans (rc 61 (by decide))
    have e50 : up (ldH h) 77 0 (rd (rtE h 7) 4 3) 50 = h 50 := (up_cell (by decide)).trans c50
    have e61 : up (ldH h) 77 0 (rd (rtE h 7) 4 3) 61 = h 61 := (up_cell (by decide)).trans c61
    refine ⟨rfl, 0, rfl, Ok_mono (fun o Λ' h2 Q => ?_) (m_load (M := MO) (g := up (ldH h) 77 0 (rd (rtE h 7) 4 3)) t2 (by rw [e50]; exact t17) (fun i hi => by rw [e61]; exact tx i hi) TK hr hp (by rw [e50]; exact nb))⟩
    obtain ⟨eL, T, g3, L, F, A⟩ := Q
    have F3 : FrD3 (ldH h) g3 := ⟨fun c c0 c1 => (F.1 c c0 (Or.inl c1)).trans (up_cell (by omega)), F.2.1, F.2.2.1, fun q q0 q1 q2 => by rw [F.2.2.2 q q0 q1 q2, up_cell (by decide)]⟩
    obtain ⟨b0, -, -, -, -, -, -, -, -, bfo, -⟩ := bg_cells (g := g3)
    rcases A with ⟨-, eo, rfl⟩ | ⟨y, -⟩
    · refine ⟨eL, INV_load J.1 J.2 z L F3, (bfo 0 (by decide)).trans F.2.1, _, eo, _, rfl, fun _ => ?_⟩
      rw [b0 77 (by decide) (by decide), F.1 77 (by decide) (by decide), up_same]
    · exact absurd z y
  · refine LW_load (K_load_x t2 TK hr hp z) (fun o Λ' g P => ⟨P.2.1, Or.inr ⟨P.1, rfl, 1, rfl, ?_⟩⟩)
    rw [P.2.2]
    have c50 : ldA h 50 = h 50 := (ldA_cell (by decide) (by decide)).trans (rc 50 (by decide))
    have c61 : ldA h 61 = h 61 := (ldA_cell (by decide) (by decide)).trans (rc 61 (by decide))
    refine Ok_mono (fun o Λ' h2 Q => ?_) (m_load (M := MO) (g := ldA h) t2 (by rw [c50]; exact t17) (fun i hi => by rw [c61]; exact tx i hi) TK hr hp (by rw [c50]; exact nb))
    obtain ⟨eL, T, g3, L, F, A⟩ := Q
    have F3 : FrD3 (ldA h) g3 := ⟨fun c c0 c1 => F.1 c c0 (Or.inl c1), F.2.1, F.2.2.1, F.2.2.2⟩
    rcases A with ⟨y, -⟩ | ⟨-, eo, rfl⟩
    · exact absurd y z
    · exact ⟨eL, INV_load_x J.1 J.2 z L F3, up_same, _, eo, 0, rfl, fun y => absurd y (by decide)⟩
end PAIR4
