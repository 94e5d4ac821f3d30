/-! ===== KnitGrader: what is asked of a piece in a size ===== -/
def ex (e : Nat) (Λ : List CT) (h : HP) : Post := fun o Λ' h' => o = .inr e ∧ Λ' = Λ ∧ h' = h
theorem Ok_ex {y : Nat} {as : List PV} {Λ : List CT} {h : HP} {e : Nat} {Λ1 : List CT} {h1 : HP} {post : Post} (H : Ok y as Λ h (ex e Λ1 h1)) (hp : post (.inr e) Λ1 h1) : Ok y as Λ h post := Ok_mono (fun o Λ' h' q => by obtain ⟨rfl, rfl, rfl⟩ := q; exact hp) H
def CI (h : HP) : Prop := PatOK (h 21) (h 22) (h 23) (h 24) (h 25) (h 26) ∧ StOK (h 28)
/-- nothing but plans and dealer has changed -/
def FrQ (h h' : HP) : Prop := ∀ c, (c < 31 ∨ 45 < c) → h' c = h c
theorem FrQ_of {h h' : HP} (H : Frm 31 h h') : FrQ h h' := fun c hc => H c (by omega)
theorem FrQ_rf (h : HP) : FrQ h h := fun _ _ => rfl
section CHECK
variable {Λ N : List CT} {h : HP} {i j k s p : Int}
theorem ckI_ok (hi : 0 ≤ i ∧ i < j) : Ok 164 [vI i, vI j] Λ h (rt none Λ h) := by
  refine ok_body B_X8_checkIndex rfl (fun X hX => ?_)
  refine hX 12 [] 0 _ _ _ _ _ _ ?_
  refine And.intro (fun c => absurd c (by omega)) (fun c => ?_)
  refine And.intro (fun d => ?_) (fun d => absurd d (by omega))
  exact rt_mk rfl rfl
theorem ckI_ex (hi : ¬ (0 ≤ i ∧ i < j)) : Ok 164 [vI i, vI j] Λ h (ex 2 Λ h) := by
  refine ok_body B_X8_checkIndex rfl (fun X hX => ?_)
  refine hX 12 [] 0 _ _ _ _ _ _ ?_
  refine And.intro (fun c => ⟨rfl, rfl, rfl⟩) (fun c => ?_)
  refine And.intro (fun d => absurd d (by omega)) (fun d => ⟨rfl, rfl, rfl⟩)
theorem ckR_ok (hi : j ≤ i ∧ i ≤ k) : Ok 165 [vI i, vI j, vI k] Λ h (rt none Λ h) := by
  refine ok_body B_X8_checkRange rfl (fun X hX => ?_)
  refine hX 12 [] 0 _ _ _ _ _ _ ?_
  refine And.intro (fun c => absurd c (by omega)) (fun c => ?_)
  refine And.intro (fun d => ?_) (fun d => absurd d (by omega))
  exact rt_mk rfl rfl
theorem ckR_ex (hi : ¬ (j ≤ i ∧ i ≤ k)) : Ok 165 [vI i, vI j, vI k] Λ h (ex 3 Λ h) := by
  refine ok_body B_X8_checkRange rfl (fun X hX => ?_)
  refine hX 12 [] 0 _ _ _ _ _ _ ?_
  refine And.intro (fun c => ⟨rfl, rfl, rfl⟩) (fun c => ?_)
  refine And.intro (fun d => absurd d (by omega)) (fun d => ⟨rfl, rfl, rfl⟩)
theorem tot_ok : Ok 19 [vR 19, vI i] (LC N) h (rt (some (vI (rd (h 21) 4 i))) (LC N) h) := total_ok (Or.inr rfl)
theorem ptt_ok : Ok 31 [vR 19, vI i] (LC N) h (rt (some (vI (rd (h 25) 6 i))) (LC N) h) := partTotal_ok (Or.inr rfl)
def isSz (h : HP) (s : Int) : Prop := 0 ≤ s ∧ s < rd (h 21) 4 0
def isPc (h : HP) (p : Int) : Prop := 0 ≤ p ∧ p < rd (h 21) 4 3
def isPa (h : HP) (p k : Int) : Prop := 0 ≤ k ∧ k < rd (h 25) 6 p
theorem ckPart_ok (hp : isPc h p) (hk : isPa h p k) : Ok 166 [vR 1, vI p, vI k] (LC N) h (rt none (LC N) h) := by
  refine ok_body B_X8_checkPart rfl (fun X hX => ?_)
  refine hX 30 [] 0 _ _ _ _ _ _ ?_
  refine Ok_rt tot_ok ?_
  refine Ok_rt (ckI_ok hp) ?_
  refine Ok_rt ptt_ok ?_
  refine Ok_rt (ckI_ok hk) ?_
  exact rt_mk rfl rfl
theorem ckPart_ex (hp : ¬ (isPc h p ∧ isPa h p k)) : Ok 166 [vR 1, vI p, vI k] (LC N) h (ex 2 (LC N) h) := by
  refine ok_body B_X8_checkPart rfl (fun X hX => ?_)
  refine hX 30 [] 0 _ _ _ _ _ _ ?_
  refine Ok_rt tot_ok ?_
  by_cases z : isPc h p
  · refine Ok_rt (ckI_ok z) ?_
    refine Ok_rt ptt_ok ?_
    refine Ok_ex (ckI_ex (fun w => hp ⟨z, w⟩)) ?_
    exact ⟨rfl, rfl, rfl⟩
  · refine Ok_ex (ckI_ex z) ?_
    exact ⟨rfl, rfl, rfl⟩
theorem plPc_ok (hC : CI h) (hs : isSz h s) (hp : isPc h p) : Ok 168 [vR 1, vI s, vI p] (LC N) h (fun o Λ' h' => o = .inl none ∧ Λ' = LC N ∧ QI h' 31 (gD h s p) (gN h p) p ∧ Frm 31 h h') := by
  have hs6 : 0 ≤ s ∧ s < 6 := ⟨hs.1, by have := hC.1.1; have := hs.2; omega⟩
  refine ok_body B_X8_planPiece rfl (fun X hX => ?_)
  refine hX 40 [] 0 _ _ _ _ _ _ ?_
  refine Ok_rt tot_ok ?_
  refine Ok_rt (ckI_ok hs) ?_
  refine Ok_rt tot_ok ?_
  refine Ok_rt (ckI_ok hp) ?_
  refine Ok_mono (fun o' Λ' h' hpost => ?_) (knit31_ok hC.1 hC.2 hs6 hp)
  obtain ⟨rfl, rfl, hI, hF⟩ := hpost
  exact ⟨rfl, rfl, QI_knit hC.1 hC.2 hs6 hp hI (hF 22 (by decide)) (hF 23 (by decide)) (hF 24 (by decide)) (hF 26 (by decide)), hF⟩
theorem plPc_ex (hp : ¬ (isSz h s ∧ isPc h p)) : Ok 168 [vR 1, vI s, vI p] (LC N) h (ex 2 (LC N) h) := by
  refine ok_body B_X8_planPiece rfl (fun X hX => ?_)
  refine hX 40 [] 0 _ _ _ _ _ _ ?_
  refine Ok_rt tot_ok ?_
  by_cases z : isSz h s
  · refine Ok_rt (ckI_ok z) ?_
    refine Ok_rt tot_ok ?_
    refine Ok_ex (ckI_ex (fun w => hp ⟨z, w⟩)) ?_
    exact ⟨rfl, rfl, rfl⟩
  · refine Ok_ex (ckI_ex z) ?_
    exact ⟨rfl, rfl, rfl⟩
/-- a row of a piece in a size; the number of its rows -/
def rwN (h : HP) (s p : Int) : Int := tp (gD h s p) (md (gD h s p) (gN h p))
def mdN (h : HP) (s p : Int) : Nat := md (gD h s p) (gN h p)
theorem plRw_ok {r : Int} (hC : CI h) (hs : isSz h s) (hp : isPc h p) (hr : 0 ≤ r ∧ r < rwN h s p) : Ok 169 [vR 1, vI s, vI p, vI r] (LC N) h (fun o Λ' h' => o = .inl none ∧ Λ' = LC N ∧ QI h' 31 (gD h s p) (gN h p) p ∧ Frm 31 h h') := by
  refine ok_body B_X8_planRow rfl (fun X hX => ?_)
  refine hX 20 [] 0 _ _ _ _ _ _ ?_
  refine Ok_mono (fun o' Λ' h' hpost => ?_) (plPc_ok hC hs hp)
  obtain ⟨rfl, rfl, hQ, hF⟩ := hpost
  refine Ok_rt (ckI_ok (i := r) (j := h' 31 7) (by rw [hQ.1.2.2.1]; exact hr)) ?_
  exact ⟨rfl, rfl, hQ, hF⟩
theorem plRw_ex {r : Int} (hC : CI h) (hr : ¬ ((isSz h s ∧ isPc h p) ∧ 0 ≤ r ∧ r < rwN h s p)) : Ok 169 [vR 1, vI s, vI p, vI r] (LC N) h (fun o Λ' h' => o = .inr 2 ∧ Λ' = LC N ∧ Frm 31 h h') := by
  refine ok_body B_X8_planRow rfl (fun X hX => ?_)
  refine hX 20 [] 0 _ _ _ _ _ _ ?_
  by_cases z : isSz h s ∧ isPc h p
  · refine Ok_mono (fun o' Λ' h' hpost => ?_) (plPc_ok hC z.1 z.2)
    obtain ⟨rfl, rfl, hQ, hF⟩ := hpost
    refine Ok_ex (ckI_ex (i := r) (j := h' 31 7) (fun w => hr ⟨z, by rw [hQ.1.2.2.1] at w; exact w⟩)) ?_
    exact ⟨rfl, rfl, hF⟩
  · refine Ok_ex (plPc_ex z) ?_
    exact ⟨rfl, rfl, fun _ _ => rfl⟩
theorem plPt_ok (hC : CI h) (hs : isSz h s) (hp : isPc h p) (hk : isPa h p k) (hm : k < (mdN h s p : Nat)) : Ok 170 [vR 1, vI s, vI p, vI k] (LC N) h (fun o Λ' h' => o = .inl none ∧ Λ' = LC N ∧ QI h' 31 (gD h s p) (gN h p) p ∧ Frm 31 h h') := by
  refine ok_body B_X8_planPart rfl (fun X hX => ?_)
  refine hX 40 [] 0 _ _ _ _ _ _ ?_
  refine Ok_mono (fun o' Λ' h' hpost => ?_) (plPc_ok hC hs hp)
  obtain ⟨rfl, rfl, hQ, hF⟩ := hpost
  refine Ok_rt ptt_ok ?_
  refine Ok_rt (ckI_ok (i := k) (j := rd (h' 25) 6 p) (by rw [hF 25 (by decide)]; exact hk)) ?_
  refine And.intro (fun c26 => ?_) (fun c26 => ?_)
  · exact ⟨rfl, rfl, hQ, hF⟩
  · have c26 : h' 31 6 ≤ k := c26
    rw [hQ.1.2.1] at c26
    exact absurd hm (Int.not_lt.mpr c26)
/-- 2: no such part; 1: it can't be knitted -/
theorem plPt_ex (hC : CI h) (hr : ¬ (((isSz h s ∧ isPc h p) ∧ isPa h p k) ∧ k < (mdN h s p : Nat))) : Ok 170 [vR 1, vI s, vI p, vI k] (LC N) h (fun o Λ' h' => ((((isSz h s ∧ isPc h p) ∧ isPa h p k) ∧ o = .inr 1) ∨ (¬ ((isSz h s ∧ isPc h p) ∧ isPa h p k) ∧ o = .inr 2)) ∧ Λ' = LC N ∧ Frm 31 h h') := by
  refine ok_body B_X8_planPart rfl (fun X hX => ?_)
  refine hX 40 [] 0 _ _ _ _ _ _ ?_
  by_cases z : isSz h s ∧ isPc h p
  · refine Ok_mono (fun o' Λ' h' hpost => ?_) (plPc_ok hC z.1 z.2)
    obtain ⟨rfl, rfl, hQ, hF⟩ := hpost
    refine Ok_rt ptt_ok ?_
    by_cases w : isPa h p k
    · refine Ok_rt (ckI_ok (i := k) (j := rd (h' 25) 6 p) (by rw [hF 25 (by decide)]; exact w)) ?_
      refine And.intro (fun c26 => ?_) (fun c26 => ?_)
      · have c26 : k < h' 31 6 := c26
        rw [hQ.1.2.1] at c26
        exact absurd ⟨⟨z, w⟩, c26⟩ hr
      · exact ⟨Or.inl ⟨⟨z, w⟩, rfl⟩, rfl, hF⟩
    · refine Ok_ex (ckI_ex (i := k) (j := rd (h' 25) 6 p) (fun y => w (by rw [hF 25 (by decide)] at y; exact y))) ?_
      exact ⟨Or.inr ⟨fun y => w y.2, rfl⟩, rfl, hF⟩
  · refine Ok_ex (plPc_ex z) ?_
    exact ⟨Or.inr ⟨fun y => z y.1, rfl⟩, rfl, fun _ _ => rfl⟩
theorem row_part {D : KD} : ∀ (m : Nat) (r : Int), 0 ≤ r → r < tp D m → ∃ k, k < m ∧ tp D k ≤ r ∧ r < tp D (k + 1)
  | 0, r, h0, h1 => by unfold tp at h1; omega
  | m + 1, r, h0, h1 => by
    by_cases z : r < tp D m
    · obtain ⟨k, a, b, c⟩ := row_part m r h0 z
      exact ⟨k, by omega, b, c⟩
    · exact ⟨m, by omega, by omega, h1⟩
end CHECK
