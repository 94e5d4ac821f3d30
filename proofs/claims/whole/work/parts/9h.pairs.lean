/-! ===== the pairs: the class's call and then the model's (by mk9h.py) ===== -/
/-- what holds between two calls of the law -/
def JV (h : HP) : Prop := INV h ∧ RI h
def Sq (h h1 : HP) : Prop := ∀ c, c < 77 → (c < 30 ∨ 45 < c) → h1 c = h c
/-- the model's answer, as the law compares it -/
def sndP (Q : Int → Option PV → HP → Prop) (k : Int) : Post := fun o Λ' h' => Λ' = LL MO ∧ JV h' ∧ h' 50 0 = k ∧ ∃ b, o = .inl b ∧ Q k b h'
def fstP (Q : Int → Option PV → HP → Prop) (z : Nat) (as : List PV) : Post := fun o Λ' h' => Λ' = LL MO ∧ ∃ k, o = .inl (some (vI k)) ∧ Ok z as (LL MO) h' (sndP Q k)
def qI (k : Int) (b : Option PV) (h : HP) : Prop := ∃ x, b = some (vI x) ∧ (k = 0 → h 77 0 = x)
def qL (k : Int) (b : Option PV) (h : HP) : Prop := ∃ x, b = some (vL x) ∧ (k = 0 → h 77 0 = x)
def qZ (k : Int) (b : Option PV) (h : HP) : Prop := ∃ x, b = some (vI x) ∧ (k = 0 → h 77 0 = if x = 0 then 0 else 1)
def qV (_ : Int) (b : Option PV) (_ : HP) : Prop := b = none
section PAIR
variable {h g h1 : HP} {z : Nat} {as : List PV} {x k : Int}
theorem Sq_Q (f : FrQ h g) : Sq h g := fun c _ b => f c (by omega)
theorem Sq_up {j i : Nat} {v : Int} (S : Sq h g) (hj : 77 ≤ j) : Sq h (up g j i v) := fun c a b => (up_cell (by omega)).trans (S c a b)
theorem FrQ_eq (e : g = h) : FrQ h g := fun c _ => by rw [e]
theorem JV_Sq (J : JV h) (S : Sq h h1) : JV h1 :=
  ⟨INV_fr J.1 (fun c y => by unfold inI at y; exact S c (by omega) (by omega)) (fun q _ => by rw [S 50 (by decide) (by decide)]), RI_fr J.2 (fun c a b => S c (by omega) (by omega)) (by rw [S 50 (by decide) (by decide)])⟩
theorem JV_M (J : JV h) (f : FrM h h1) : JV h1 :=
  ⟨INV_M J.1 f, RI_fr J.2 (fun c a b => f.1 c (by omega) (by omega)) (f.2 22 (by decide) (by decide) (by decide) (by decide) (by decide))⟩
theorem rt_va {v : PV} (H : Ok z as (LL MO) h (rt (some v) (LL MO) (up h 50 0 0))) : Ok z as (LL MO) h (vaP MO h v) :=
  Ok_mono (fun o Λ' h' P => ⟨P.1, P.2.1, by rw [P.2.2]; exact FrM_0, by rw [P.2.2, up_same]⟩) H
theorem rt_th (H : Ok z as (LL MO) h (rt (some (vI x)) (LL MO) (up h 50 0 k))) : Ok z as (LL MO) h (thP MO h x k) :=
  Ok_mono (fun o Λ' h' P => ⟨P.1, P.2.1, by rw [P.2.2]; exact FrM_0, by rw [P.2.2, up_same]⟩) H
theorem FrM_77 (f : FrM h h1) (i : Nat) : h1 77 i = h 77 i := congrFun (f.1 77 (by decide) (by decide)) i
theorem s_va (J : JV h1) (q : h1 77 0 = x) (M : Ok z as (LL MO) h1 (vaP MO h1 (vI x))) : Ok z as (LL MO) h1 (sndP qI 0) :=
  Ok_mono (fun o Λ' h' P => ⟨P.2.1, JV_M J P.2.2.1, P.2.2.2, _, P.1, x, rfl, fun _ => (FrM_77 P.2.2.1 0).trans q⟩) M
theorem s_vaL (J : JV h1) (q : h1 77 0 = x) (M : Ok z as (LL MO) h1 (vaP MO h1 (vL x))) : Ok z as (LL MO) h1 (sndP qL 0) :=
  Ok_mono (fun o Λ' h' P => ⟨P.2.1, JV_M J P.2.2.1, P.2.2.2, _, P.1, x, rfl, fun _ => (FrM_77 P.2.2.1 0).trans q⟩) M
theorem s_vaZ (J : JV h1) (q : h1 77 0 = if x = 0 then 0 else 1) (M : Ok z as (LL MO) h1 (vaP MO h1 (vI x))) : Ok z as (LL MO) h1 (sndP qZ 0) :=
  Ok_mono (fun o Λ' h' P => ⟨P.2.1, JV_M J P.2.2.1, P.2.2.2, _, P.1, x, rfl, fun _ => (FrM_77 P.2.2.1 0).trans q⟩) M
theorem s_th (J : JV h1) (hk : k ≠ 0) (M : Ok z as (LL MO) h1 (thP MO h1 x k)) : Ok z as (LL MO) h1 (sndP qI k) :=
  Ok_mono (fun o Λ' h' P => ⟨P.2.1, JV_M J P.2.2.1, P.2.2.2, _, P.1, x, rfl, fun y => absurd y hk⟩) M
theorem s_thZ (J : JV h1) (hk : k ≠ 0) (M : Ok z as (LL MO) h1 (thP MO h1 x k)) : Ok z as (LL MO) h1 (sndP qZ k) :=
  Ok_mono (fun o Λ' h' P => ⟨P.2.1, JV_M J P.2.2.1, P.2.2.2, _, P.1, x, rfl, fun y => absurd y hk⟩) M
theorem s_thL (J : JV h1) (hk : k ≠ 0) (M : Ok z as (LL MO) h1 (fun o Λ' h' => o = .inl (some (vL x)) ∧ Λ' = LL MO ∧ FrM h1 h' ∧ h' 50 0 = k)) : Ok z as (LL MO) h1 (sndP qL k) :=
  Ok_mono (fun o Λ' h' P => ⟨P.2.1, JV_M J P.2.2.1, P.2.2.2, _, P.1, x, rfl, fun y => absurd y hk⟩) M
theorem p_v (J : JV h) (f : FrQ h g) (M : ∀ h1, Sq h h1 → JV h1 → Ok z as (LL MO) h1 (vaP MO h1 (vI x))) : fstP qI z as (.inl (some (vI 0))) (LL MO) (up g 77 0 x) :=
  have S := Sq_up (j := 77) (i := 0) (v := x) (Sq_Q f) (Nat.le_refl _)
  ⟨rfl, 0, rfl, s_va (JV_Sq J S) up_same (M _ S (JV_Sq J S))⟩
theorem p_vL (J : JV h) (f : FrQ h g) (M : ∀ h1, Sq h h1 → JV h1 → Ok z as (LL MO) h1 (vaP MO h1 (vL x))) : fstP qL z as (.inl (some (vI 0))) (LL MO) (up g 77 0 x) :=
  have S := Sq_up (j := 77) (i := 0) (v := x) (Sq_Q f) (Nat.le_refl _)
  ⟨rfl, 0, rfl, s_vaL (JV_Sq J S) up_same (M _ S (JV_Sq J S))⟩
theorem p_vZ (J : JV h) (f : FrQ h g) (M : ∀ h1, Sq h h1 → JV h1 → Ok z as (LL MO) h1 (vaP MO h1 (vI x))) : fstP qZ z as (.inl (some (vI 0))) (LL MO) (up g 77 0 (if x = 0 then 0 else 1)) :=
  have S := Sq_up (j := 77) (i := 0) (v := if x = 0 then 0 else 1) (Sq_Q f) (Nat.le_refl _)
  ⟨rfl, 0, rfl, s_vaZ (JV_Sq J S) up_same (M _ S (JV_Sq J S))⟩
theorem p_e (J : JV h) (f : FrQ h g) (hk : k ≠ 0) (M : ∀ h1, Sq h h1 → JV h1 → Ok z as (LL MO) h1 (thP MO h1 x k)) : fstP qI z as (.inl (some (vI k))) (LL MO) g :=
  ⟨rfl, k, rfl, s_th (JV_Sq J (Sq_Q f)) hk (M _ (Sq_Q f) (JV_Sq J (Sq_Q f)))⟩
theorem p_eZ (J : JV h) (f : FrQ h g) (hk : k ≠ 0) (M : ∀ h1, Sq h h1 → JV h1 → Ok z as (LL MO) h1 (thP MO h1 x k)) : fstP qZ z as (.inl (some (vI k))) (LL MO) g :=
  ⟨rfl, k, rfl, s_thZ (JV_Sq J (Sq_Q f)) hk (M _ (Sq_Q f) (JV_Sq J (Sq_Q f)))⟩
theorem p_eL (J : JV h) (f : FrQ h g) (hk : k ≠ 0) (M : ∀ h1, Sq h h1 → JV h1 → Ok z as (LL MO) h1 (fun o Λ' h' => o = .inl (some (vL x)) ∧ Λ' = LL MO ∧ FrM h1 h' ∧ h' 50 0 = k)) : fstP qL z as (.inl (some (vI k))) (LL MO) g :=
  ⟨rfl, k, rfl, s_thL (JV_Sq J (Sq_Q f)) hk (M _ (Sq_Q f) (JV_Sq J (Sq_Q f)))⟩
theorem sq_sz (S : Sq h h1) (s : Int) : isSz h s = isSz h1 s := by unfold isSz; rw [S 21 (by decide) (by decide)]
theorem sq_pc (S : Sq h h1) (s : Int) : isPc h s = isPc h1 s := by unfold isPc; rw [S 21 (by decide) (by decide)]
theorem sq_ms (S : Sq h h1) (s : Int) : isMs h s = isMs h1 s := by unfold isMs; rw [S 21 (by decide) (by decide)]
theorem sq_ch (S : Sq h h1) (s : Int) : isCh h s = isCh h1 s := by unfold isCh; rw [S 21 (by decide) (by decide)]
theorem sq_pa (S : Sq h h1) (s k : Int) : isPa h s k = isPa h1 s k := by unfold isPa; rw [S 25 (by decide) (by decide)]
theorem sq_lt (S : Sq h h1) (s : Int) : isLt h s = isLt h1 s := by unfold isLt; rw [S 28 (by decide) (by decide)]
theorem sq_gD (S : Sq h h1) (s p : Int) : gD h s p = gD h1 s p := by unfold gD; rw [S 22 (by decide) (by decide), S 23 (by decide) (by decide), S 24 (by decide) (by decide), S 26 (by decide) (by decide), S 28 (by decide) (by decide)]
theorem sq_gN (S : Sq h h1) (p : Int) : gN h p = gN h1 p := by unfold gN; rw [S 25 (by decide) (by decide)]
theorem sq_md (S : Sq h h1) (s p : Int) : mdN h s p = mdN h1 s p := by unfold mdN; rw [sq_gD S, sq_gN S]
theorem sq_rw (S : Sq h h1) (s p : Int) : rwN h s p = rwN h1 s p := by unfold rwN; rw [sq_gD S, sq_gN S]
theorem sq_nC (S : Sq h h1) (s p c : Int) : nCol h s p c = nCol h1 s p c := by unfold nCol; rw [sq_gD S, sq_gN S, S 28 (by decide) (by decide)]
theorem sq_ct (S : Sq h h1) (i : Int) : cntF h i = cntF h1 i := by unfold cntF; rw [S 28 (by decide) (by decide), S 21 (by decide) (by decide), S 1 (by decide) (by decide)]
theorem sq_c (S : Sq h h1) {c : Nat} (h1' : c < 77) (h2 : c < 30 ∨ 45 < c) : h c = h1 c := (S c h1' h2).symm
end PAIR

theorem P_value {h : HP} {m s : Int} (J : JV h) : Ok 287 [vR 1, vI m, vI s, vR 77] (LL MO) h (fstP qI 218 [vR 50, vI m, vI s]) := by
  by_cases hx : isMs h m ∧ isSz h s
  · exact LW_value (K_value J.1.1.1 hx.1 hx.2) (fun o Λ' g P => ⟨P.2.1, Or.inl ⟨_, P.1, p_v J (FrQ_eq P.2.2) (fun h1 S J1 => by
      simp only [sq_sz S, sq_pc S, sq_ms S, sq_ch S, sq_pa S, sq_lt S, sq_gD S, sq_gN S, sq_md S, sq_rw S, sq_nC S, sq_ct S, sq_c S (c := 21) (by decide) (by decide), sq_c S (c := 22) (by decide) (by decide), sq_c S (c := 23) (by decide) (by decide), sq_c S (c := 24) (by decide) (by decide), sq_c S (c := 25) (by decide) (by decide), sq_c S (c := 26) (by decide) (by decide), sq_c S (c := 28) (by decide) (by decide)] at hx ⊢
      exact rt_va (m_value J1.1.1.1 J1.1.1.2.1 hx.1 hx.2))⟩⟩)
  · exact LW_value (K_value_x hx) (fun o Λ' g P => ⟨P.2.1, Or.inr ⟨P.1, p_e J (FrQ_eq P.2.2) (by decide) (fun h1 S J1 => by
      simp only [sq_sz S, sq_pc S, sq_ms S, sq_ch S, sq_pa S, sq_lt S, sq_gD S, sq_gN S, sq_md S, sq_rw S, sq_nC S, sq_ct S, sq_c S (c := 21) (by decide) (by decide), sq_c S (c := 22) (by decide) (by decide), sq_c S (c := 23) (by decide) (by decide), sq_c S (c := 24) (by decide) (by decide), sq_c S (c := 25) (by decide) (by decide), sq_c S (c := 26) (by decide) (by decide), sq_c S (c := 28) (by decide) (by decide)] at hx ⊢
      exact rt_th (m_value_x J1.1.1.1 J1.1.1.2.1 hx))⟩⟩)

theorem P_isGraded {h : HP} {m : Int} (J : JV h) : Ok 288 [vR 1, vI m, vR 77] (LL MO) h (fstP qZ 219 [vR 50, vI m]) := by
  by_cases hx : isMs h m
  · exact LW_isGraded (K_isGraded J.1.1.1 hx) (fun o Λ' g P => ⟨P.2.1, Or.inl ⟨_, P.1, p_vZ J (FrQ_eq P.2.2) (fun h1 S J1 => by
      simp only [sq_sz S, sq_pc S, sq_ms S, sq_ch S, sq_pa S, sq_lt S, sq_gD S, sq_gN S, sq_md S, sq_rw S, sq_nC S, sq_ct S, sq_c S (c := 21) (by decide) (by decide), sq_c S (c := 22) (by decide) (by decide), sq_c S (c := 23) (by decide) (by decide), sq_c S (c := 24) (by decide) (by decide), sq_c S (c := 25) (by decide) (by decide), sq_c S (c := 26) (by decide) (by decide), sq_c S (c := 28) (by decide) (by decide)] at hx ⊢
      exact m_isGraded J1.1.1.1 J1.1.1.2.1 hx)⟩⟩)
  · exact LW_isGraded (K_isGraded_x hx) (fun o Λ' g P => ⟨P.2.1, Or.inr ⟨P.1, p_eZ J (FrQ_eq P.2.2) (by decide) (fun h1 S J1 => by
      simp only [sq_sz S, sq_pc S, sq_ms S, sq_ch S, sq_pa S, sq_lt S, sq_gD S, sq_gN S, sq_md S, sq_rw S, sq_nC S, sq_ct S, sq_c S (c := 21) (by decide) (by decide), sq_c S (c := 22) (by decide) (by decide), sq_c S (c := 23) (by decide) (by decide), sq_c S (c := 24) (by decide) (by decide), sq_c S (c := 25) (by decide) (by decide), sq_c S (c := 26) (by decide) (by decide), sq_c S (c := 28) (by decide) (by decide)] at hx ⊢
      exact m_isGraded_x J1.1.1.1 J1.1.1.2.1 hx)⟩⟩)

theorem P_fits {h : HP} {m x : Int} (J : JV h) : Ok 289 [vR 1, vI m, vI x, vR 77] (LL MO) h (fstP qI 220 [vR 50, vI m, vI x]) := by
  by_cases hx : isMs h m
  · by_cases hy : 0 ≤ x ∧ x ≤ 3000
    · exact LW_fits (K_fits J.1.1.1 hx hy) (fun o Λ' g P => ⟨P.2.1, Or.inl ⟨_, P.1, p_v J (FrQ_eq P.2.2) (fun h1 S J1 => by
        simp only [sq_sz S, sq_pc S, sq_ms S, sq_ch S, sq_pa S, sq_lt S, sq_gD S, sq_gN S, sq_md S, sq_rw S, sq_nC S, sq_ct S, sq_c S (c := 21) (by decide) (by decide), sq_c S (c := 22) (by decide) (by decide), sq_c S (c := 23) (by decide) (by decide), sq_c S (c := 24) (by decide) (by decide), sq_c S (c := 25) (by decide) (by decide), sq_c S (c := 26) (by decide) (by decide), sq_c S (c := 28) (by decide) (by decide)] at hx ⊢
        exact m_fits J1.1.1.1 J1.1.1.2.1 hx hy)⟩⟩)
    · exact LW_fits (K_fits_y hx hy) (fun o Λ' g P => ⟨P.2.1, Or.inr (Or.inr ⟨P.1, p_e J (FrQ_eq P.2.2) (by decide) (fun h1 S J1 => by
        simp only [sq_sz S, sq_pc S, sq_ms S, sq_ch S, sq_pa S, sq_lt S, sq_gD S, sq_gN S, sq_md S, sq_rw S, sq_nC S, sq_ct S, sq_c S (c := 21) (by decide) (by decide), sq_c S (c := 22) (by decide) (by decide), sq_c S (c := 23) (by decide) (by decide), sq_c S (c := 24) (by decide) (by decide), sq_c S (c := 25) (by decide) (by decide), sq_c S (c := 26) (by decide) (by decide), sq_c S (c := 28) (by decide) (by decide)] at hx ⊢
        exact m_fits_y J1.1.1.1 J1.1.1.2.1 hx hy)⟩)⟩)
  · exact LW_fits (K_fits_x hx) (fun o Λ' g P => ⟨P.2.1, Or.inr (Or.inl ⟨P.1, p_e J (FrQ_eq P.2.2) (by decide) (fun h1 S J1 => by
      simp only [sq_sz S, sq_pc S, sq_ms S, sq_ch S, sq_pa S, sq_lt S, sq_gD S, sq_gN S, sq_md S, sq_rw S, sq_nC S, sq_ct S, sq_c S (c := 21) (by decide) (by decide), sq_c S (c := 22) (by decide) (by decide), sq_c S (c := 23) (by decide) (by decide), sq_c S (c := 24) (by decide) (by decide), sq_c S (c := 25) (by decide) (by decide), sq_c S (c := 26) (by decide) (by decide), sq_c S (c := 28) (by decide) (by decide)] at hx ⊢
      exact m_fits_x J1.1.1.1 J1.1.1.2.1 hx)⟩)⟩)

theorem P_chart {h : HP} {c i : Int} (J : JV h) : Ok 290 [vR 1, vI c, vI i, vR 77] (LL MO) h (fstP qI 221 [vR 50, vI c, vI i]) := by
  by_cases hx : isCh h c
  · by_cases hy : 0 ≤ i ∧ i ≤ 2
    · exact LW_chart (K_chart J.1.1.1 hx hy) (fun o Λ' g P => ⟨P.2.1, Or.inl ⟨_, P.1, p_v J (FrQ_eq P.2.2) (fun h1 S J1 => by
        simp only [sq_sz S, sq_pc S, sq_ms S, sq_ch S, sq_pa S, sq_lt S, sq_gD S, sq_gN S, sq_md S, sq_rw S, sq_nC S, sq_ct S, sq_c S (c := 21) (by decide) (by decide), sq_c S (c := 22) (by decide) (by decide), sq_c S (c := 23) (by decide) (by decide), sq_c S (c := 24) (by decide) (by decide), sq_c S (c := 25) (by decide) (by decide), sq_c S (c := 26) (by decide) (by decide), sq_c S (c := 28) (by decide) (by decide)] at hx ⊢
        exact m_chart J1.1.1.1 J1.1.1.2.1 hx hy)⟩⟩)
    · exact LW_chart (K_chart_y hx hy) (fun o Λ' g P => ⟨P.2.1, Or.inr (Or.inr ⟨P.1, p_e J (FrQ_eq P.2.2) (by decide) (fun h1 S J1 => by
        simp only [sq_sz S, sq_pc S, sq_ms S, sq_ch S, sq_pa S, sq_lt S, sq_gD S, sq_gN S, sq_md S, sq_rw S, sq_nC S, sq_ct S, sq_c S (c := 21) (by decide) (by decide), sq_c S (c := 22) (by decide) (by decide), sq_c S (c := 23) (by decide) (by decide), sq_c S (c := 24) (by decide) (by decide), sq_c S (c := 25) (by decide) (by decide), sq_c S (c := 26) (by decide) (by decide), sq_c S (c := 28) (by decide) (by decide)] at hx ⊢
        exact m_chart_y J1.1.1.1 J1.1.1.2.1 hx hy)⟩)⟩)
  · exact LW_chart (K_chart_x hx) (fun o Λ' g P => ⟨P.2.1, Or.inr (Or.inl ⟨P.1, p_e J (FrQ_eq P.2.2) (by decide) (fun h1 S J1 => by
      simp only [sq_sz S, sq_pc S, sq_ms S, sq_ch S, sq_pa S, sq_lt S, sq_gD S, sq_gN S, sq_md S, sq_rw S, sq_nC S, sq_ct S, sq_c S (c := 21) (by decide) (by decide), sq_c S (c := 22) (by decide) (by decide), sq_c S (c := 23) (by decide) (by decide), sq_c S (c := 24) (by decide) (by decide), sq_c S (c := 25) (by decide) (by decide), sq_c S (c := 26) (by decide) (by decide), sq_c S (c := 28) (by decide) (by decide)] at hx ⊢
      exact m_chart_x J1.1.1.1 J1.1.1.2.1 hx)⟩)⟩)

theorem P_chartRow {h : HP} {c r i : Int} (J : JV h) : Ok 291 [vR 1, vI c, vI r, vI i, vR 77] (LL MO) h (fstP qI 222 [vR 50, vI c, vI r, vI i]) := by
  by_cases hx : isCh h c ∧ (0 ≤ r ∧ r < rd (h 22) 4 c)
  · exact LW_chartRow (K_chartRow J.1.1.1 hx.1 hx.2) (fun o Λ' g P => ⟨P.2.1, Or.inl ⟨_, P.1, p_v J (FrQ_eq P.2.2) (fun h1 S J1 => by
      simp only [sq_sz S, sq_pc S, sq_ms S, sq_ch S, sq_pa S, sq_lt S, sq_gD S, sq_gN S, sq_md S, sq_rw S, sq_nC S, sq_ct S, sq_c S (c := 21) (by decide) (by decide), sq_c S (c := 22) (by decide) (by decide), sq_c S (c := 23) (by decide) (by decide), sq_c S (c := 24) (by decide) (by decide), sq_c S (c := 25) (by decide) (by decide), sq_c S (c := 26) (by decide) (by decide), sq_c S (c := 28) (by decide) (by decide)] at hx ⊢
      exact m_chartRow J1.1.1.1 J1.1.1.2.1 hx.1 hx.2)⟩⟩)
  · exact LW_chartRow (K_chartRow_x hx) (fun o Λ' g P => ⟨P.2.1, Or.inr ⟨P.1, p_e J (FrQ_eq P.2.2) (by decide) (fun h1 S J1 => by
      simp only [sq_sz S, sq_pc S, sq_ms S, sq_ch S, sq_pa S, sq_lt S, sq_gD S, sq_gN S, sq_md S, sq_rw S, sq_nC S, sq_ct S, sq_c S (c := 21) (by decide) (by decide), sq_c S (c := 22) (by decide) (by decide), sq_c S (c := 23) (by decide) (by decide), sq_c S (c := 24) (by decide) (by decide), sq_c S (c := 25) (by decide) (by decide), sq_c S (c := 26) (by decide) (by decide), sq_c S (c := 28) (by decide) (by decide)] at hx ⊢
      exact m_chartRow_x J1.1.1.1 J1.1.1.2.1 hx)⟩⟩)

theorem P_part {h : HP} {p k i : Int} (J : JV h) : Ok 292 [vR 1, vI p, vI k, vI i, vR 77] (LL MO) h (fstP qI 224 [vR 50, vI p, vI k, vI i]) := by
  by_cases hx : isPc h p ∧ isPa h p k
  · by_cases hy : 0 ≤ i ∧ i ≤ 8
    · exact LW_part (K_part J.1.1.1 hx.1 hx.2 hy) (fun o Λ' g P => ⟨P.2.1, Or.inl ⟨_, P.1, p_v J (FrQ_eq P.2.2) (fun h1 S J1 => by
        simp only [sq_sz S, sq_pc S, sq_ms S, sq_ch S, sq_pa S, sq_lt S, sq_gD S, sq_gN S, sq_md S, sq_rw S, sq_nC S, sq_ct S, sq_c S (c := 21) (by decide) (by decide), sq_c S (c := 22) (by decide) (by decide), sq_c S (c := 23) (by decide) (by decide), sq_c S (c := 24) (by decide) (by decide), sq_c S (c := 25) (by decide) (by decide), sq_c S (c := 26) (by decide) (by decide), sq_c S (c := 28) (by decide) (by decide)] at hx ⊢
        exact m_part J1.1.1.1 J1.1.1.2.1 hx.1 hx.2 hy)⟩⟩)
    · exact LW_part (K_part_y hx.1 hx.2 hy) (fun o Λ' g P => ⟨P.2.1, Or.inr (Or.inr ⟨P.1, p_e J (FrQ_eq P.2.2) (by decide) (fun h1 S J1 => by
        simp only [sq_sz S, sq_pc S, sq_ms S, sq_ch S, sq_pa S, sq_lt S, sq_gD S, sq_gN S, sq_md S, sq_rw S, sq_nC S, sq_ct S, sq_c S (c := 21) (by decide) (by decide), sq_c S (c := 22) (by decide) (by decide), sq_c S (c := 23) (by decide) (by decide), sq_c S (c := 24) (by decide) (by decide), sq_c S (c := 25) (by decide) (by decide), sq_c S (c := 26) (by decide) (by decide), sq_c S (c := 28) (by decide) (by decide)] at hx ⊢
        exact m_part_y J1.1.1.1 J1.1.1.2.1 hx.1 hx.2 hy)⟩)⟩)
  · exact LW_part (K_part_x hx) (fun o Λ' g P => ⟨P.2.1, Or.inr (Or.inl ⟨P.1, p_e J (FrQ_eq P.2.2) (by decide) (fun h1 S J1 => by
      simp only [sq_sz S, sq_pc S, sq_ms S, sq_ch S, sq_pa S, sq_lt S, sq_gD S, sq_gN S, sq_md S, sq_rw S, sq_nC S, sq_ct S, sq_c S (c := 21) (by decide) (by decide), sq_c S (c := 22) (by decide) (by decide), sq_c S (c := 23) (by decide) (by decide), sq_c S (c := 24) (by decide) (by decide), sq_c S (c := 25) (by decide) (by decide), sq_c S (c := 26) (by decide) (by decide), sq_c S (c := 28) (by decide) (by decide)] at hx ⊢
      exact m_part_x J1.1.1.1 J1.1.1.2.1 hx)⟩)⟩)

theorem P_parts {h : HP} {p : Int} (J : JV h) : Ok 293 [vR 1, vI p, vR 77] (LL MO) h (fstP qI 225 [vR 50, vI p]) := by
  by_cases hx : isPc h p
  · exact LW_parts (K_parts hx) (fun o Λ' g P => ⟨P.2.1, Or.inl ⟨_, P.1, p_v J (FrQ_eq P.2.2) (fun h1 S J1 => by
      simp only [sq_sz S, sq_pc S, sq_ms S, sq_ch S, sq_pa S, sq_lt S, sq_gD S, sq_gN S, sq_md S, sq_rw S, sq_nC S, sq_ct S, sq_c S (c := 21) (by decide) (by decide), sq_c S (c := 22) (by decide) (by decide), sq_c S (c := 23) (by decide) (by decide), sq_c S (c := 24) (by decide) (by decide), sq_c S (c := 25) (by decide) (by decide), sq_c S (c := 26) (by decide) (by decide), sq_c S (c := 28) (by decide) (by decide)] at hx ⊢
      exact m_parts J1.1.1.1 J1.1.1.2.1 hx)⟩⟩)
  · exact LW_parts (K_parts_x hx) (fun o Λ' g P => ⟨P.2.1, Or.inr ⟨P.1, p_e J (FrQ_eq P.2.2) (by decide) (fun h1 S J1 => by
      simp only [sq_sz S, sq_pc S, sq_ms S, sq_ch S, sq_pa S, sq_lt S, sq_gD S, sq_gN S, sq_md S, sq_rw S, sq_nC S, sq_ct S, sq_c S (c := 21) (by decide) (by decide), sq_c S (c := 22) (by decide) (by decide), sq_c S (c := 23) (by decide) (by decide), sq_c S (c := 24) (by decide) (by decide), sq_c S (c := 25) (by decide) (by decide), sq_c S (c := 26) (by decide) (by decide), sq_c S (c := 28) (by decide) (by decide)] at hx ⊢
      exact m_parts_x J1.1.1.1 J1.1.1.2.1 hx)⟩⟩)

theorem P_lot {h : HP} {l i : Int} (J : JV h) : Ok 304 [vR 1, vI l, vI i, vR 77] (LL MO) h (fstP qI 249 [vR 50, vI l, vI i]) := by
  by_cases hx : isLt h l
  · by_cases hy : 0 ≤ i ∧ i ≤ 1
    · exact LW_lot (K_lot J.1.1.1 hx hy) (fun o Λ' g P => ⟨P.2.1, Or.inl ⟨_, P.1, p_v J (FrQ_eq P.2.2) (fun h1 S J1 => by
        simp only [sq_sz S, sq_pc S, sq_ms S, sq_ch S, sq_pa S, sq_lt S, sq_gD S, sq_gN S, sq_md S, sq_rw S, sq_nC S, sq_ct S, sq_c S (c := 21) (by decide) (by decide), sq_c S (c := 22) (by decide) (by decide), sq_c S (c := 23) (by decide) (by decide), sq_c S (c := 24) (by decide) (by decide), sq_c S (c := 25) (by decide) (by decide), sq_c S (c := 26) (by decide) (by decide), sq_c S (c := 28) (by decide) (by decide)] at hx ⊢
        exact m_lot J1.1.1.1 J1.1.1.2.1 hx hy)⟩⟩)
    · exact LW_lot (K_lot_y hx hy) (fun o Λ' g P => ⟨P.2.1, Or.inr (Or.inr ⟨P.1, p_e J (FrQ_eq P.2.2) (by decide) (fun h1 S J1 => by
        simp only [sq_sz S, sq_pc S, sq_ms S, sq_ch S, sq_pa S, sq_lt S, sq_gD S, sq_gN S, sq_md S, sq_rw S, sq_nC S, sq_ct S, sq_c S (c := 21) (by decide) (by decide), sq_c S (c := 22) (by decide) (by decide), sq_c S (c := 23) (by decide) (by decide), sq_c S (c := 24) (by decide) (by decide), sq_c S (c := 25) (by decide) (by decide), sq_c S (c := 26) (by decide) (by decide), sq_c S (c := 28) (by decide) (by decide)] at hx ⊢
        exact m_lot_y J1.1.1.1 J1.1.1.2.1 hx hy)⟩)⟩)
  · exact LW_lot (K_lot_x hx) (fun o Λ' g P => ⟨P.2.1, Or.inr (Or.inl ⟨P.1, p_e J (FrQ_eq P.2.2) (by decide) (fun h1 S J1 => by
      simp only [sq_sz S, sq_pc S, sq_ms S, sq_ch S, sq_pa S, sq_lt S, sq_gD S, sq_gN S, sq_md S, sq_rw S, sq_nC S, sq_ct S, sq_c S (c := 21) (by decide) (by decide), sq_c S (c := 22) (by decide) (by decide), sq_c S (c := 23) (by decide) (by decide), sq_c S (c := 24) (by decide) (by decide), sq_c S (c := 25) (by decide) (by decide), sq_c S (c := 26) (by decide) (by decide), sq_c S (c := 28) (by decide) (by decide)] at hx ⊢
      exact m_lot_x J1.1.1.1 J1.1.1.2.1 hx)⟩)⟩)

theorem P_count {h : HP} {i : Int} (J : JV h) : Ok 286 [vR 1, vI i, vR 77] (LL MO) h (fstP qI 212 [vR 50, vI i]) := by
  by_cases hx : 0 ≤ i ∧ i ≤ 8
  · exact LW_count (K_count hx) (fun o Λ' g P => ⟨P.2.1, Or.inl ⟨_, P.1, p_v J (FrQ_eq P.2.2) (fun h1 S J1 => by
      simp only [sq_sz S, sq_pc S, sq_ms S, sq_ch S, sq_pa S, sq_lt S, sq_gD S, sq_gN S, sq_md S, sq_rw S, sq_nC S, sq_ct S, sq_c S (c := 21) (by decide) (by decide), sq_c S (c := 22) (by decide) (by decide), sq_c S (c := 23) (by decide) (by decide), sq_c S (c := 24) (by decide) (by decide), sq_c S (c := 25) (by decide) (by decide), sq_c S (c := 26) (by decide) (by decide), sq_c S (c := 28) (by decide) (by decide)] at ⊢
      exact m_count J1.1.1.2.1 J1.1.2.1.1 hx)⟩⟩)
  · exact LW_count (K_count_x hx) (fun o Λ' g P => ⟨P.2.1, Or.inr ⟨P.1, p_e J (FrQ_eq P.2.2) (by decide) (fun h1 S J1 => m_count_x hx)⟩⟩)

theorem P_failure {h : HP} {s p : Int} (J : JV h) : Ok 294 [vR 1, vI s, vI p, vR 77] (LL MO) h (fstP qI 235 [vR 50, vI s, vI p]) := by
  by_cases hx : isSz h s ∧ isPc h p
  · exact LW_failure (K_failure J.1.1.1 hx.1 hx.2) (fun o Λ' g P => ⟨P.2.1, Or.inl ⟨_, P.1, p_v J P.2.2 (fun h1 S J1 => by
      simp only [sq_sz S, sq_pc S, sq_ms S, sq_ch S, sq_pa S, sq_lt S, sq_gD S, sq_gN S, sq_md S, sq_rw S, sq_nC S, sq_ct S, sq_c S (c := 21) (by decide) (by decide), sq_c S (c := 22) (by decide) (by decide), sq_c S (c := 23) (by decide) (by decide), sq_c S (c := 24) (by decide) (by decide), sq_c S (c := 25) (by decide) (by decide), sq_c S (c := 26) (by decide) (by decide), sq_c S (c := 28) (by decide) (by decide)] at hx ⊢
      exact m_failure J1.1.1.1 J1.1.1.2.1 hx.1 hx.2)⟩⟩)
  · exact LW_failure (K_failure_x hx) (fun o Λ' g P => ⟨P.2.1, Or.inr ⟨P.1, p_e J P.2.2 (by decide) (fun h1 S J1 => by
      simp only [sq_sz S, sq_pc S, sq_ms S, sq_ch S, sq_pa S, sq_lt S, sq_gD S, sq_gN S, sq_md S, sq_rw S, sq_nC S, sq_ct S, sq_c S (c := 21) (by decide) (by decide), sq_c S (c := 22) (by decide) (by decide), sq_c S (c := 23) (by decide) (by decide), sq_c S (c := 24) (by decide) (by decide), sq_c S (c := 25) (by decide) (by decide), sq_c S (c := 26) (by decide) (by decide), sq_c S (c := 28) (by decide) (by decide)] at hx ⊢
      exact m_failure_x J1.1.1.1 J1.1.1.2.1 hx)⟩⟩)

theorem P_rows {h : HP} {s p : Int} (J : JV h) : Ok 295 [vR 1, vI s, vI p, vR 77] (LL MO) h (fstP qI 236 [vR 50, vI s, vI p]) := by
  by_cases hx : isSz h s ∧ isPc h p
  · exact LW_rows (K_rows J.1.1.1 hx.1 hx.2) (fun o Λ' g P => ⟨P.2.1, Or.inl ⟨_, P.1, p_v J P.2.2 (fun h1 S J1 => by
      simp only [sq_sz S, sq_pc S, sq_ms S, sq_ch S, sq_pa S, sq_lt S, sq_gD S, sq_gN S, sq_md S, sq_rw S, sq_nC S, sq_ct S, sq_c S (c := 21) (by decide) (by decide), sq_c S (c := 22) (by decide) (by decide), sq_c S (c := 23) (by decide) (by decide), sq_c S (c := 24) (by decide) (by decide), sq_c S (c := 25) (by decide) (by decide), sq_c S (c := 26) (by decide) (by decide), sq_c S (c := 28) (by decide) (by decide)] at hx ⊢
      exact m_rows J1.1.1.1 J1.1.1.2.1 hx.1 hx.2)⟩⟩)
  · exact LW_rows (K_rows_x hx) (fun o Λ' g P => ⟨P.2.1, Or.inr ⟨P.1, p_e J P.2.2 (by decide) (fun h1 S J1 => by
      simp only [sq_sz S, sq_pc S, sq_ms S, sq_ch S, sq_pa S, sq_lt S, sq_gD S, sq_gN S, sq_md S, sq_rw S, sq_nC S, sq_ct S, sq_c S (c := 21) (by decide) (by decide), sq_c S (c := 22) (by decide) (by decide), sq_c S (c := 23) (by decide) (by decide), sq_c S (c := 24) (by decide) (by decide), sq_c S (c := 25) (by decide) (by decide), sq_c S (c := 26) (by decide) (by decide), sq_c S (c := 28) (by decide) (by decide)] at hx ⊢
      exact m_rows_x J1.1.1.1 J1.1.1.2.1 hx)⟩⟩)

theorem P_extreme {h : HP} {s p i : Int} (J : JV h) : Ok 299 [vR 1, vI s, vI p, vI i, vR 77] (LL MO) h (fstP qI 242 [vR 50, vI s, vI p, vI i]) := by
  by_cases hx : isSz h s ∧ isPc h p
  · exact LW_extreme (K_extreme J.1.1.1 hx.1 hx.2) (fun o Λ' g P => ⟨P.2.1, Or.inl ⟨_, P.1, p_v J P.2.2 (fun h1 S J1 => by
      simp only [sq_sz S, sq_pc S, sq_ms S, sq_ch S, sq_pa S, sq_lt S, sq_gD S, sq_gN S, sq_md S, sq_rw S, sq_nC S, sq_ct S, sq_c S (c := 21) (by decide) (by decide), sq_c S (c := 22) (by decide) (by decide), sq_c S (c := 23) (by decide) (by decide), sq_c S (c := 24) (by decide) (by decide), sq_c S (c := 25) (by decide) (by decide), sq_c S (c := 26) (by decide) (by decide), sq_c S (c := 28) (by decide) (by decide)] at hx ⊢
      exact m_extreme J1.1.1.1 J1.1.1.2.1 hx.1 hx.2)⟩⟩)
  · exact LW_extreme (K_extreme_x hx) (fun o Λ' g P => ⟨P.2.1, Or.inr ⟨P.1, p_e J P.2.2 (by decide) (fun h1 S J1 => by
      simp only [sq_sz S, sq_pc S, sq_ms S, sq_ch S, sq_pa S, sq_lt S, sq_gD S, sq_gN S, sq_md S, sq_rw S, sq_nC S, sq_ct S, sq_c S (c := 21) (by decide) (by decide), sq_c S (c := 22) (by decide) (by decide), sq_c S (c := 23) (by decide) (by decide), sq_c S (c := 24) (by decide) (by decide), sq_c S (c := 25) (by decide) (by decide), sq_c S (c := 26) (by decide) (by decide), sq_c S (c := 28) (by decide) (by decide)] at hx ⊢
      exact m_extreme_x J1.1.1.1 J1.1.1.2.1 hx)⟩⟩)

theorem P_stitches {h : HP} {s p r : Int} (J : JV h) : Ok 297 [vR 1, vI s, vI p, vI r, vR 77] (LL MO) h (fstP qI 240 [vR 50, vI s, vI p, vI r]) := by
  by_cases hx : (isSz h s ∧ isPc h p) ∧ 0 ≤ r ∧ r < rwN h s p
  · obtain ⟨q, q1, q2, q3⟩ := row_part (mdN h s p) r hx.2.1 hx.2.2
    exact LW_stitches (K_stitches J.1.1.1 hx.1.1 hx.1.2 q1 q2 q3) (fun o Λ' g P => ⟨P.2.1, Or.inl ⟨_, P.1, p_v J P.2.2 (fun h1 S J1 => by
      simp only [sq_sz S, sq_pc S, sq_ms S, sq_ch S, sq_pa S, sq_lt S, sq_gD S, sq_gN S, sq_md S, sq_rw S, sq_nC S, sq_ct S, sq_c S (c := 21) (by decide) (by decide), sq_c S (c := 22) (by decide) (by decide), sq_c S (c := 23) (by decide) (by decide), sq_c S (c := 24) (by decide) (by decide), sq_c S (c := 25) (by decide) (by decide), sq_c S (c := 26) (by decide) (by decide), sq_c S (c := 28) (by decide) (by decide)] at hx q1 q2 q3 ⊢
      exact m_stitches J1.1.1.1 J1.1.1.2.1 hx.1.1 hx.1.2 q1 q2 q3)⟩⟩)
  · exact LW_stitches (K_stitches_x J.1.1.1 hx) (fun o Λ' g P => ⟨P.2.1, Or.inr ⟨P.1, p_e J P.2.2 (by decide) (fun h1 S J1 => by
      simp only [sq_sz S, sq_pc S, sq_ms S, sq_ch S, sq_pa S, sq_lt S, sq_gD S, sq_gN S, sq_md S, sq_rw S, sq_nC S, sq_ct S, sq_c S (c := 21) (by decide) (by decide), sq_c S (c := 22) (by decide) (by decide), sq_c S (c := 23) (by decide) (by decide), sq_c S (c := 24) (by decide) (by decide), sq_c S (c := 25) (by decide) (by decide), sq_c S (c := 26) (by decide) (by decide), sq_c S (c := 28) (by decide) (by decide)] at hx ⊢
      exact m_stitches_x J1.1.1.1 J1.1.1.2.1 hx)⟩⟩)

theorem P_partAt {h : HP} {s p r : Int} (J : JV h) : Ok 298 [vR 1, vI s, vI p, vI r, vR 77] (LL MO) h (fstP qI 241 [vR 50, vI s, vI p, vI r]) := by
  by_cases hx : (isSz h s ∧ isPc h p) ∧ 0 ≤ r ∧ r < rwN h s p
  · obtain ⟨q, q1, q2, q3⟩ := row_part (mdN h s p) r hx.2.1 hx.2.2
    exact LW_partAt (K_partAt J.1.1.1 hx.1.1 hx.1.2 q1 q2 q3) (fun o Λ' g P => ⟨P.2.1, Or.inl ⟨_, P.1, p_v J P.2.2 (fun h1 S J1 => by
      simp only [sq_sz S, sq_pc S, sq_ms S, sq_ch S, sq_pa S, sq_lt S, sq_gD S, sq_gN S, sq_md S, sq_rw S, sq_nC S, sq_ct S, sq_c S (c := 21) (by decide) (by decide), sq_c S (c := 22) (by decide) (by decide), sq_c S (c := 23) (by decide) (by decide), sq_c S (c := 24) (by decide) (by decide), sq_c S (c := 25) (by decide) (by decide), sq_c S (c := 26) (by decide) (by decide), sq_c S (c := 28) (by decide) (by decide)] at hx q1 q2 q3 ⊢
      exact m_partAt J1.1.1.1 J1.1.1.2.1 hx.1.1 hx.1.2 q1 q2 q3)⟩⟩)
  · exact LW_partAt (K_partAt_x J.1.1.1 hx) (fun o Λ' g P => ⟨P.2.1, Or.inr ⟨P.1, p_e J P.2.2 (by decide) (fun h1 S J1 => by
      simp only [sq_sz S, sq_pc S, sq_ms S, sq_ch S, sq_pa S, sq_lt S, sq_gD S, sq_gN S, sq_md S, sq_rw S, sq_nC S, sq_ct S, sq_c S (c := 21) (by decide) (by decide), sq_c S (c := 22) (by decide) (by decide), sq_c S (c := 23) (by decide) (by decide), sq_c S (c := 24) (by decide) (by decide), sq_c S (c := 25) (by decide) (by decide), sq_c S (c := 26) (by decide) (by decide), sq_c S (c := 28) (by decide) (by decide)] at hx ⊢
      exact m_partAt_x J1.1.1.1 J1.1.1.2.1 hx)⟩⟩)

theorem P_need {h : HP} {s p c : Int} (J : JV h) : Ok 303 [vR 1, vI s, vI p, vI c, vR 77] (LL MO) h (fstP qL 248 [vR 50, vI s, vI p, vI c]) := by
  by_cases hx : isSz h s ∧ isPc h p
  · by_cases hy : 0 ≤ c ∧ c ≤ 3
    · exact LW_need (K_need J.1.1.1 hx.1 hx.2 hy) (fun o Λ' g P => ⟨P.2.1, Or.inl ⟨_, P.1, p_vL J P.2.2 (fun h1 S J1 => by
        simp only [sq_sz S, sq_pc S, sq_ms S, sq_ch S, sq_pa S, sq_lt S, sq_gD S, sq_gN S, sq_md S, sq_rw S, sq_nC S, sq_ct S, sq_c S (c := 21) (by decide) (by decide), sq_c S (c := 22) (by decide) (by decide), sq_c S (c := 23) (by decide) (by decide), sq_c S (c := 24) (by decide) (by decide), sq_c S (c := 25) (by decide) (by decide), sq_c S (c := 26) (by decide) (by decide), sq_c S (c := 28) (by decide) (by decide)] at hx ⊢
        exact m_need J1.1.1.1 J1.1.1.2.1 hx.1 hx.2 hy)⟩⟩)
    · exact LW_need (K_need_c J.1.1.1 hx.1 hx.2 hy) (fun o Λ' g P => ⟨P.2.1, Or.inr (Or.inr ⟨P.1, p_eL J P.2.2 (by decide) (fun h1 S J1 => by
        simp only [sq_sz S, sq_pc S, sq_ms S, sq_ch S, sq_pa S, sq_lt S, sq_gD S, sq_gN S, sq_md S, sq_rw S, sq_nC S, sq_ct S, sq_c S (c := 21) (by decide) (by decide), sq_c S (c := 22) (by decide) (by decide), sq_c S (c := 23) (by decide) (by decide), sq_c S (c := 24) (by decide) (by decide), sq_c S (c := 25) (by decide) (by decide), sq_c S (c := 26) (by decide) (by decide), sq_c S (c := 28) (by decide) (by decide)] at hx ⊢
        exact m_need_c J1.1.1.1 J1.1.1.2.1 hx.1 hx.2 hy)⟩)⟩)
  · exact LW_need (K_need_x hx) (fun o Λ' g P => ⟨P.2.1, Or.inr (Or.inl ⟨P.1, p_eL J P.2.2 (by decide) (fun h1 S J1 => by
      simp only [sq_sz S, sq_pc S, sq_ms S, sq_ch S, sq_pa S, sq_lt S, sq_gD S, sq_gN S, sq_md S, sq_rw S, sq_nC S, sq_ct S, sq_c S (c := 21) (by decide) (by decide), sq_c S (c := 22) (by decide) (by decide), sq_c S (c := 23) (by decide) (by decide), sq_c S (c := 24) (by decide) (by decide), sq_c S (c := 25) (by decide) (by decide), sq_c S (c := 26) (by decide) (by decide), sq_c S (c := 28) (by decide) (by decide)] at hx ⊢
      exact m_need_x J1.1.1.1 J1.1.1.2.1 hx)⟩)⟩)

