/-! ===== the model: may, for pieces ===== -/
def FrM (h h' : HP) : Prop := (∀ c, c ≠ 50 → (c < 69 ∨ 76 < c) → h' c = h c) ∧ ∀ q, q ≠ 0 → q ≠ 39 → q ≠ 40 → q ≠ 41 → q ≠ 46 → h' 50 q = h 50 q
theorem FrM_rf (h : HP) : FrM h h := ⟨fun _ _ _ => rfl, fun _ _ _ _ _ _ => rfl⟩
theorem FrM_0 {h : HP} {v : Int} : FrM h (up h 50 0 v) := ⟨fun c c1 _ => up_cell c1, fun q q0 _ _ _ _ => up_ne q0⟩
theorem FrM_tr {h h1 h2 : HP} (a : FrM h h1) (b : FrM h1 h2) : FrM h h2 := ⟨fun c c1 c2 => by rw [b.1 c c1 c2, a.1 c c1 c2], fun q q0 q1 q2 q3 q4 => by rw [b.2 q q0 q1 q2 q3 q4, a.2 q q0 q1 q2 q3 q4]⟩
theorem CI_M {h h' : HP} (H : CI h) (f : FrM h h') : CI h' := CI_fr H (fun c a b => f.1 c (by omega) (by omega))
theorem Cpl_M {h h' : HP} (H : Cpl h) (f : FrM h h') : Cpl h' := Cpl_fr H (fun c a b => f.1 c (by omega) (by omega)) (fun c a b => f.1 c (by omega) (by omega)) (fun j a b => f.2 j (by omega) (by omega) (by omega) (by omega) (by omega))
theorem gD_0 {h : HP} {j : Nat} {v s p : Int} : gD (up h 50 j v) s p = gD h s p := gD_of (up_cell (by decide)) (up_cell (by decide)) (up_cell (by decide)) (up_cell (by decide)) (up_cell (by decide)) s p
theorem gN_0 {h : HP} {j : Nat} {v p : Int} : gN (up h 50 j v) p = gN h p := gN_of (up_cell (by decide)) p
/-- what mayKnit leaves -/
def knP (M : List CT) (h : HP) (s p : Int) (x : Int) : Post := fun o Λ' h' => o = .inl (some (vI x)) ∧ Λ' = LL M ∧ FrM h h' ∧ h' 50 0 = 0 ∧ StC (h' 69) (h 28) ∧ KnIs h' (gD h s p) (gN h p)
/-- the end of a call that throws -/
def thP (M : List CT) (h : HP) (x e : Int) : Post := fun o Λ' h' => o = .inl (some (vI x)) ∧ Λ' = LL M ∧ FrM h h' ∧ h' 50 0 = e
section MASK
variable {M : List CT} {h : HP} {i j k m s p c x r w : Int}
theorem KOK_h (hC : CI h) (hs : isSz h s) (hp : isPc h p) : KOK (gD h s p) (gN h p) ∧ 1 ≤ gN h p ∧ gN h p ≤ 10 := by
  have hs6 : 0 ≤ s ∧ s < 6 := ⟨hs.1, by have := hC.1.1; have := hs.2; omega⟩
  have hn := (hC.1.2.2.2.2.2 p hp.1 hp.2).1
  exact ⟨cD_ok hC.1 hC.2 hs6 hp, by unfold gN; omega, by unfold gN; omega⟩
theorem rwN_bd (hC : CI h) (hs : isSz h s) (hp : isPc h p) : 1 ≤ rwN h s p ∧ rwN h s p ≤ 26821 := by
  have k := KOK_h hC hs hp
  have m := (md_spec (gD h s p) (gN h p)).1
  have m0 := md_pos hC hs hp
  have t := (tp_bd2 k.1 (md (gD h s p) (gN h p)) m).2 (by unfold mdN at m0; omega)
  unfold rwN
  omega
theorem m_mayKnit0 (hC : CI h) (hM : Cpl h) (hs : isSz h s) (hp : isPc h p) : Ok 233 [vR 50, vI s, vI p] (LL M) (up h 50 0 0) (knP M h s p 1) := by
  have C0 := CI_0 (j := 0) (v := 0) hC
  have M0 := Cpl_0 (v := 0) hM
  refine ok_body B_X9_mayKnit rfl (fun X hX => ?_)
  have b3 := hC.1.2.2.2.1
  have bp := (hC.1.2.2.2.2.2 p hp.1 hp.2).1
  have e69 : ∀ q, rd (byF 57 69 132 0 (up h 50 0 0) 69) 132 q = rd (h 57) 132 q := fun q => by rw [byNow_rd, up_cell (by decide)]
  have eo : ∀ c, c ≠ 69 → c ≠ 50 → byF 57 69 132 0 (up h 50 0 0) c = h c := fun c c1 c2 => by rw [byF_cell c1, up_cell c2]
  have e50 : byF 57 69 132 0 (up h 50 0 0) 50 = up h 50 0 0 50 := byF_cell (by decide) _ _ _
  have hn : rd (h 25) 6 p = ((gN h p : Nat) : Int) := by unfold gN; omega
  have kn := m_knits (M := M) (h := byF 57 69 132 0 (up h 50 0 0)) (s := s) (p := p) (n := gN h p) (st := h 28) (D := gD h s p)
    (Cpl_fr M0 (fun c a b => byF_cell (by omega) _ _ _) (fun c a b => byF_cell (by omega) _ _ _) (fun j a b => by rw [e50]))
    (CI_fr C0 (fun c a b => byF_cell (by omega) _ _ _))
    (by unfold isSz; rw [eo 21 (by decide) (by decide)]; exact hs) (by unfold isPc; rw [eo 21 (by decide) (by decide)]; exact hp)
    (StC_by e69 hM.2.2.2) hC.2 (by unfold gD; rw [eo 22 (by decide) (by decide), eo 23 (by decide) (by decide), eo 24 (by decide) (by decide), eo 26 (by decide) (by decide)])
    (by rw [eo 25 (by decide) (by decide)]; exact hn)
  have n69 : StC (byF 57 69 132 0 (up h 50 0 0) 69) (h 28) := StC_by e69 hM.2.2.2
  refine hX 60 [22] 0 _ _ _ _ _ _ ?_
  refine Ok_mono (fun o' Λ' h' hpost => ?_) (m_isSize (M := M) (i := s) C0 M0)
  obtain ⟨rfl, rfl, x, rfl, hb⟩ := hpost
  rcases hb with ⟨-, rfl⟩ | ⟨hb, -⟩
  · refine And.intro (fun c => absurd c (by decide)) (fun _ => ?_)
    refine Ok_mono (fun o' Λ' h' hpost => ?_) (m_isPiece (M := M) (i := p) C0 M0)
    obtain ⟨rfl, rfl, x, rfl, hb⟩ := hpost
    rcases hb with ⟨-, rfl⟩ | ⟨hb, -⟩
    · refine And.intro (fun c => absurd c (by decide)) (fun _ => ?_)
      refine hX 60 [] 22 _ _ _ _ _ _ ?_
      refine Ok_rt (mayT (by decide) up_same) ?_
      refine And.intro (fun _ => ?_) (fun c => absurd c (by decide))
      refine Ok_rt m_byNow ?_
      refine Ok_mono (fun o' Λ' h' hpost => ?_) kn
      obtain ⟨rfl, rfl, f, hI⟩ := hpost
      refine And.intro ⟨by decide, by decide⟩ ⟨rfl, rfl, ⟨fun c c1 c2 => ?_, fun q q0 q1 q2 q3 q4 => ?_⟩, ?_, ?_, hI⟩
      · rw [f.1 c c1 (by omega) (by omega), eo c (by omega) c1]
      · rw [f.2 q q1 q2 q3, e50, up_ne q0]
      · rw [f.2 0 (by decide) (by decide) (by decide), e50, up_same]
      · rw [f.1 69 (by decide) (by decide) (by decide)]; exact n69
    · exact absurd (isPc_0.mpr hp) hb
  · exact absurd (isSz_0.mpr hs) hb
theorem m_mayKnit0_x (hC : CI h) (hM : Cpl h) (hx : ¬ (isSz h s ∧ isPc h p)) : Ok 233 [vR 50, vI s, vI p] (LL M) (up h 50 0 0) (thP M h 0 1) := by
  have C0 := CI_0 (j := 0) (v := 0) hC
  have M0 := Cpl_0 (v := 0) hM
  have fin : ∀ h', h' = up (up h 50 0 0) 50 0 1 → FrM h h' ∧ h' 50 0 = 1 := fun h' e => by rw [e, up_up]; exact ⟨FrM_0, up_same⟩
  refine ok_body B_X9_mayKnit rfl (fun X hX => ?_)
  have bad : X 22 [vR 50, vI s, vI p] [vI 0, vR 50] (LL M) (up h 50 0 0) 0 0 := by
    refine hX 60 [] 22 _ _ _ _ _ _ ?_
    refine Ok_rt (mayF (by decide) up_same) ?_
    refine And.intro (fun c => absurd rfl c) (fun _ => ?_)
    exact And.intro ⟨by decide, by decide⟩ ⟨rfl, rfl, fin _ rfl⟩
  refine hX 60 [22] 0 _ _ _ _ _ _ ?_
  refine Ok_mono (fun o' Λ' h' hpost => ?_) (m_isSize (M := M) (i := s) C0 M0)
  obtain ⟨rfl, rfl, x, rfl, hb⟩ := hpost
  rcases hb with ⟨h1, rfl⟩ | ⟨-, rfl⟩
  · refine And.intro (fun c => absurd c (by decide)) (fun _ => ?_)
    refine Ok_mono (fun o' Λ' h' hpost => ?_) (m_isPiece (M := M) (i := p) C0 M0)
    obtain ⟨rfl, rfl, x, rfl, hb⟩ := hpost
    rcases hb with ⟨h2, rfl⟩ | ⟨-, rfl⟩
    · exact absurd ⟨isSz_0.mp h1, isPc_0.mp h2⟩ hx
    · exact And.intro (fun _ => bad) (fun c => absurd rfl c)
  · exact And.intro (fun _ => bad) (fun c => absurd rfl c)
theorem m_isPart (hC : CI h) (hM : Cpl h) : Ok 216 [vR 50, vI p, vI k] (LL M) h (fun o Λ' h' => Λ' = LL M ∧ h' = h ∧ ∃ x, o = .inl (some (vI x)) ∧ bI x (isPc h p ∧ isPa h p k)) := by
  refine ok_body B_X9_isPart rfl (fun X hX => ?_)
  refine hX 60 [] 0 _ _ _ _ _ _ ?_
  refine Ok_mono (fun o' Λ' h' hpost => ?_) (m_isPiece (M := M) (i := p) hC hM)
  obtain ⟨rfl, rfl, x, rfl, hb⟩ := hpost
  rcases hb with ⟨h1, rfl⟩ | ⟨h1, rfl⟩
  · have b3 := hC.1.2.2.2.1
    have h1p := h1
    unfold isPc at h1p
    have bp := (hC.1.2.2.2.2.2 p h1.1 h1.2).1
    have pq := (hM.2.2.1 p h1.1 h1.2).1
    rw [rd_in h1.1 (by omega)] at pq
    refine And.intro (fun c => absurd c (by decide)) (fun _ => ?_)
    refine And.intro ⟨by omega, by omega⟩ ?_
    refine And.intro (show inR (h' 54 p.toNat - 1) from ⟨by omega, by omega⟩) ?_
    by_cases z : isPa h' p k
    · refine Ok_rt (isIn_t (j := 0) (k := h' 54 p.toNat - 1) ⟨z.1, by have := z.2; omega⟩) ?_
      refine And.intro (fun c => absurd c (by decide)) (fun _ => ?_)
      exact And.intro ⟨by decide, by decide⟩ ⟨rfl, rfl, _, rfl, Or.inl ⟨⟨h1, z⟩, rfl⟩⟩
    · refine Ok_rt (isIn_f (j := 0) (k := h' 54 p.toNat - 1) (fun y => z ⟨y.1, by have := y.2; omega⟩)) ?_
      refine And.intro (fun _ => ?_) (fun c => absurd rfl c)
      exact And.intro ⟨by decide, by decide⟩ ⟨rfl, rfl, _, rfl, Or.inr ⟨fun y => z y.2, rfl⟩⟩
  · refine And.intro (fun _ => ?_) (fun c => absurd rfl c)
    exact And.intro ⟨by decide, by decide⟩ ⟨rfl, rfl, _, rfl, Or.inr ⟨fun y => h1 y.1, rfl⟩⟩
theorem m_mayAsk0 (hC : CI h) (hM : Cpl h) (hs : isSz h s) (hp : isPc h p) (hk : isPa h p k) (hm : k < (mdN h s p : Nat)) : Ok 237 [vR 50, vI s, vI p, vI k] (LL M) (up h 50 0 0) (knP M h s p 1) := by
  have C0 := CI_0 (j := 0) (v := 0) hC
  have M0 := Cpl_0 (v := 0) hM
  refine ok_body B_X9_mayAsk rfl (fun X hX => ?_)
  refine hX 60 [23] 0 _ _ _ _ _ _ ?_
  refine Ok_mono (fun o' Λ' h' hpost => ?_) (m_isSize (M := M) (i := s) C0 M0)
  obtain ⟨rfl, rfl, x, rfl, hb⟩ := hpost
  rcases hb with ⟨-, rfl⟩ | ⟨hb, -⟩
  · refine And.intro (fun c => absurd c (by decide)) (fun _ => ?_)
    refine Ok_mono (fun o' Λ' h' hpost => ?_) (m_isPart (M := M) (p := p) (k := k) C0 M0)
    obtain ⟨rfl, rfl, x, rfl, hb⟩ := hpost
    rcases hb with ⟨-, rfl⟩ | ⟨hb, -⟩
    · refine And.intro (fun c => absurd c (by decide)) (fun _ => ?_)
      refine hX 60 [53] 23 _ _ _ _ _ _ ?_
      refine Ok_rt (mayT (by decide) up_same) ?_
      refine And.intro (fun c => absurd c (by decide)) (fun _ => ?_)
      refine Ok_mono (fun o' Λ' h' hpost => ?_) (m_mayKnit0 (M := M) hC hM hs hp)
      obtain ⟨rfl, rfl, f, e0, e69, hI⟩ := hpost
      refine And.intro (fun c => absurd c (by decide)) (fun _ => ?_)
      refine And.intro (fun c45 => ?_) (fun c45 => ?_)
      · have i1 := hI.1
        unfold mdN at hm
        exact absurd c45 (by omega)
      · refine hX 60 [] 53 _ _ _ _ _ _ ?_
        refine Ok_rt (mayT (by decide) e0) ?_
        refine And.intro (fun c => absurd c (by decide)) (fun _ => ?_)
        exact And.intro ⟨by decide, by decide⟩ ⟨rfl, rfl, f, e0, e69, hI⟩
    · exact absurd ⟨isPc_0.mpr hp, isPa_0.mpr hk⟩ hb
  · exact absurd (isSz_0.mpr hs) hb
theorem m_mayAsk0_x (hC : CI h) (hM : Cpl h) (hx : ¬ (isSz h s ∧ isPc h p ∧ isPa h p k)) : Ok 237 [vR 50, vI s, vI p, vI k] (LL M) (up h 50 0 0) (thP M h 0 1) := by
  have C0 := CI_0 (j := 0) (v := 0) hC
  have M0 := Cpl_0 (v := 0) hM
  have fin : ∀ h', h' = up (up h 50 0 0) 50 0 1 → FrM h h' ∧ h' 50 0 = 1 := fun h' e => by rw [e, up_up]; exact ⟨FrM_0, up_same⟩
  refine ok_body B_X9_mayAsk rfl (fun X hX => ?_)
  have bad : X 23 [vR 50, vI s, vI p, vI k] [vI 0, vR 50] (LL M) (up h 50 0 0) 0 0 := by
    refine hX 60 [] 23 _ _ _ _ _ _ ?_
    refine Ok_rt (mayF (by decide) up_same) ?_
    refine And.intro (fun _ => ?_) (fun c => absurd rfl c)
    exact And.intro ⟨by decide, by decide⟩ ⟨rfl, rfl, fin _ rfl⟩
  refine hX 60 [23] 0 _ _ _ _ _ _ ?_
  refine Ok_mono (fun o' Λ' h' hpost => ?_) (m_isSize (M := M) (i := s) C0 M0)
  obtain ⟨rfl, rfl, x, rfl, hb⟩ := hpost
  rcases hb with ⟨h1, rfl⟩ | ⟨-, rfl⟩
  · refine And.intro (fun c => absurd c (by decide)) (fun _ => ?_)
    refine Ok_mono (fun o' Λ' h' hpost => ?_) (m_isPart (M := M) (p := p) (k := k) C0 M0)
    obtain ⟨rfl, rfl, x, rfl, hb⟩ := hpost
    rcases hb with ⟨h2, rfl⟩ | ⟨-, rfl⟩
    · exact absurd ⟨isSz_0.mp h1, isPc_0.mp h2.1, isPa_0.mp h2.2⟩ hx
    · exact And.intro (fun _ => bad) (fun c => absurd rfl c)
  · exact And.intro (fun _ => bad) (fun c => absurd rfl c)
theorem m_mayAsk0_y (hC : CI h) (hM : Cpl h) (hs : isSz h s) (hp : isPc h p) (hk : isPa h p k) (hm : ¬ k < (mdN h s p : Nat)) : Ok 237 [vR 50, vI s, vI p, vI k] (LL M) (up h 50 0 0) (thP M h 0 2) := by
  have C0 := CI_0 (j := 0) (v := 0) hC
  have M0 := Cpl_0 (v := 0) hM
  refine ok_body B_X9_mayAsk rfl (fun X hX => ?_)
  refine hX 60 [23] 0 _ _ _ _ _ _ ?_
  refine Ok_mono (fun o' Λ' h' hpost => ?_) (m_isSize (M := M) (i := s) C0 M0)
  obtain ⟨rfl, rfl, x, rfl, hb⟩ := hpost
  rcases hb with ⟨-, rfl⟩ | ⟨hb, -⟩
  · refine And.intro (fun c => absurd c (by decide)) (fun _ => ?_)
    refine Ok_mono (fun o' Λ' h' hpost => ?_) (m_isPart (M := M) (p := p) (k := k) C0 M0)
    obtain ⟨rfl, rfl, x, rfl, hb⟩ := hpost
    rcases hb with ⟨-, rfl⟩ | ⟨hb, -⟩
    · refine And.intro (fun c => absurd c (by decide)) (fun _ => ?_)
      refine hX 60 [53] 23 _ _ _ _ _ _ ?_
      refine Ok_rt (mayT (by decide) up_same) ?_
      refine And.intro (fun c => absurd c (by decide)) (fun _ => ?_)
      refine Ok_mono (fun o' Λ' h' hpost => ?_) (m_mayKnit0 (M := M) hC hM hs hp)
      obtain ⟨rfl, rfl, f, e0, e69, hI⟩ := hpost
      refine And.intro (fun c => absurd c (by decide)) (fun _ => ?_)
      refine And.intro (fun c45 => ?_) (fun c45 => ?_)
      · refine hX 60 [] 53 _ _ _ _ _ _ ?_
        refine Ok_rt (mayF (by decide) e0) ?_
        refine And.intro (fun _ => ?_) (fun c => absurd rfl c)
        exact And.intro ⟨by decide, by decide⟩ ⟨rfl, rfl, FrM_tr f FrM_0, up_same⟩
      · have i1 := hI.1
        unfold mdN at hm
        exact absurd c45 (by omega)
    · exact absurd ⟨isPc_0.mpr hp, isPa_0.mpr hk⟩ hb
  · exact absurd (isSz_0.mpr hs) hb
theorem m_hasRow0 (hC : CI h) (hM : Cpl h) (hs : isSz h s) (hp : isPc h p) (hr : 0 ≤ r ∧ r < rwN h s p) : Ok 239 [vR 50, vI s, vI p, vI r] (LL M) (up h 50 0 0) (knP M h s p 1) := by
  have hb := rwN_bd hC hs hp
  refine ok_body B_X9_hasRow rfl (fun X hX => ?_)
  refine hX 60 [] 0 _ _ _ _ _ _ ?_
  refine Ok_mono (fun o' Λ' h' hpost => ?_) (m_mayKnit0 (M := M) hC hM hs hp)
  obtain ⟨rfl, rfl, f, e0, e69, hI⟩ := hpost
  have i2 : h' 50 39 = rwN h s p := hI.2.1
  refine And.intro (fun c => absurd c (by decide)) (fun _ => ?_)
  refine And.intro ⟨by omega, by omega⟩ ?_
  refine Ok_rt (isIn_t (j := 0) (k := h' 50 39 - 1) ⟨hr.1, by omega⟩) ?_
  refine Ok_rt (mayT (by decide) e0) ?_
  refine And.intro (fun c => absurd c (by decide)) (fun _ => ?_)
  exact And.intro ⟨by decide, by decide⟩ ⟨rfl, rfl, f, e0, e69, hI⟩
theorem m_hasRow0_x (hC : CI h) (hM : Cpl h) (hx : ¬ ((isSz h s ∧ isPc h p) ∧ 0 ≤ r ∧ r < rwN h s p)) : Ok 239 [vR 50, vI s, vI p, vI r] (LL M) (up h 50 0 0) (thP M h 0 1) := by
  refine ok_body B_X9_hasRow rfl (fun X hX => ?_)
  refine hX 60 [] 0 _ _ _ _ _ _ ?_
  by_cases z : isSz h s ∧ isPc h p
  · have hb := rwN_bd hC z.1 z.2
    refine Ok_mono (fun o' Λ' h' hpost => ?_) (m_mayKnit0 (M := M) hC hM z.1 z.2)
    obtain ⟨rfl, rfl, f, e0, e69, hI⟩ := hpost
    have i2 : h' 50 39 = rwN h s p := hI.2.1
    refine And.intro (fun c => absurd c (by decide)) (fun _ => ?_)
    refine And.intro ⟨by omega, by omega⟩ ?_
    refine Ok_rt (isIn_f (j := 0) (k := h' 50 39 - 1) (fun y => hx ⟨z, y.1, by omega⟩)) ?_
    refine Ok_rt (mayF (by decide) e0) ?_
    refine And.intro (fun _ => ?_) (fun c => absurd rfl c)
    exact And.intro ⟨by decide, by decide⟩ ⟨rfl, rfl, FrM_tr f FrM_0, up_same⟩
  · refine Ok_mono (fun o' Λ' h' hpost => ?_) (m_mayKnit0_x (M := M) hC hM z)
    obtain ⟨rfl, rfl, f, e0⟩ := hpost
    refine And.intro (fun _ => ?_) (fun c => absurd rfl c)
    exact And.intro ⟨by decide, by decide⟩ ⟨rfl, rfl, f, e0⟩
end MASK
