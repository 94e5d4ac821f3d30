/-! ===== what splitTokens leaves ===== -/
theorem tok_end {h : HP} {tl t : Int} {m : Nat} (htl : 0 ≤ tl ∧ tl ≤ 1500) (ht : 0 ≤ t) (htm : t + (m : Int) ≤ 1500) (H : TKI h) : (∃ T : Nat, (T : Int) ≤ t + (m : Int) ∧ rd (tokH h t tl tl 1 15) 1501 (T : Int) = 1) ∧ TKI (tokH h t tl tl 1) ∧ ∀ c, (c < 15 ∨ 18 < c) → tokH h t tl tl 1 c = h c := by
  refine ⟨⟨t.toNat, by omega, ?_⟩, TKI_tok H ⟨htl.1, by omega⟩ ⟨htl.1, by omega⟩ (fun c => absurd c (by decide)), fun c hc => tokH_cell (by omega) (by omega) (by omega) (by omega)⟩
  have e : tokH h t tl tl 1 15 = wrA (wrA (wrA h 16 1501 t tl) 17 1501 t tl) 15 1501 t 1 15 := by
    unfold tokH tokB
    rw [wrA_cell (by decide)]
  rw [e, rd_in (by omega) (by omega), wrA_in (by omega) (by omega), Int.toNat_natCast, up_same]
theorem splT_sp {tl : Int} (htl : 0 ≤ tl ∧ tl ≤ 1500) : ∀ (m : Nat) (t p : Int) (h : HP), h 2 1 = tl → 0 ≤ t → t + (m : Int) ≤ 1500 → 0 ≤ p → TKI h →
    (∃ T : Nat, (T : Int) ≤ t + (m : Int) ∧ rd (splT tl m t p h 15) 1501 (T : Int) = 1) ∧ TKI (splT tl m t p h) ∧ ∀ c, (c < 15 ∨ 18 < c) → splT tl m t p h c = h c
  | 0, t, p, h, _, ht, htm, _, H => tok_end htl ht htm H
  | m + 1, t, p, h, e2, ht, htm, hp, H => by
    by_cases z : p < tl
    · have rb := runE_bd (h := h) (i := p) (by omega)
      by_cases y : txB h p = 10 ∨ txB h p = 32
      · have st : splT tl (m + 1) t p h = splT tl m t (runE h p) h := by
          conv => lhs; unfold splT
          rw [if_pos z, if_pos y]
        rw [st]
        obtain ⟨⟨T, T1, T2⟩, b, c⟩ := splT_sp htl m t (runE h p) h e2 ht (by omega) (by omega) H
        exact ⟨⟨T, by omega, T2⟩, b, c⟩
      · have st : splT tl (m + 1) t p h = splT tl m (t + 1) (runE h p) (tokH h t p (runE h p) (kdT h p (runE h p))) := by
          conv => lhs; unfold splT
          rw [if_pos z, if_neg y]
        rw [st]
        obtain ⟨⟨T, T1, T2⟩, b, c⟩ := splT_sp htl m (t + 1) (runE h p) (tokH h t p (runE h p) (kdT h p (runE h p))) (by rw [tokH_cell (by decide) (by decide) (by decide) (by decide)]; exact e2) (by omega) (by omega) (by omega)
          (TKI_tok H ⟨hp, by omega⟩ ⟨by omega, by omega⟩ (fun ek => kd_dig (by omega) ek))
        exact ⟨⟨T, by omega, T2⟩, b, fun q hq => by rw [c q hq]; exact tokH_cell (by omega) (by omega) (by omega) (by omega)⟩
    · have st : splT tl (m + 1) t p h = tokH h t tl tl 1 := by
        conv => lhs; unfold splT
        rw [if_neg z]
      rw [st]
      exact tok_end htl ht htm H
