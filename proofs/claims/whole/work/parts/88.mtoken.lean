/-! ===== the model: the next token ===== -/
theorem skB_bd {f : Int → Int} : ∀ (m : Nat) (i : Int), i ≤ skB f m i ∧ skB f m i ≤ i + (m : Int)
  | 0, i => ⟨Int.le_refl _, by show i ≤ i + ((0 : Nat) : Int); omega⟩
  | m + 1, i => by
    unfold skB
    split
    · have := skB_bd (f := f) m (i + 1)
      omega
    · omega
theorem skB_no {f : Int → Int} : ∀ (m : Nat) (i : Int), skB f m i < i + (m : Int) → f (skB f m i) ≠ 10 ∧ f (skB f m i) ≠ 32
  | 0, i, h => by
    have h : i < i + ((0 : Nat) : Int) := h
    omega
  | m + 1, i, h => by
    unfold skB at h ⊢
    split
    · next z =>
      rw [if_pos z] at h
      exact skB_no m (i + 1) (by omega)
    · next z => exact ⟨fun y => z (Or.inl y), fun y => z (Or.inr y)⟩
def srt (k : Int) : Int := if k = 1 then 0 else if k = 2 then 2 else if k = 3 then 3 else if k = 0 then 4 else 1
/-- the text of both -/
def TxR (v g : HP) : Prop := (0 ≤ v 2 1 ∧ v 2 1 ≤ 1500) ∧ g 50 18 = v 2 1 ∧ ∀ i : Nat, (i : Int) < v 2 1 → g 61 i = txB v i
/-- nothing but the token has changed -/
def FrK (g g' : HP) : Prop := (∀ c, c ≠ 50 → g' c = g c) ∧ ∀ q, (q < 19 ∨ 22 < q) → g' 50 q = g 50 q
theorem FrK_rf (g : HP) : FrK g g := ⟨fun _ _ => rfl, fun _ _ => rfl⟩
theorem FrK_up {g g1 : HP} {q : Nat} {x : Int} (H : FrK g g1) (hq : 19 ≤ q ∧ q ≤ 22) : FrK g (up g1 50 q x) := ⟨fun c hc => (up_cell hc).trans (H.1 c hc), fun r hr => (up_ne (by omega)).trans (H.2 r hr)⟩
theorem TxR_K {v g g1 : HP} (H : TxR v g) (F : FrK g g1) : TxR v g1 := by
  unfold TxR at *
  rw [F.2 18 (by decide), F.1 61 (by decide)]
  exact H
abbrev tkA (v : HP) (n : Int) : Int := skB (txB v) (v 2 1 - n).toNat n
def TokP (v : HP) (n : Int) (g' : HP) : Prop :=
  g' 50 20 = tkA v n ∧ (tkA v n = v 2 1 → g' 50 19 = v 2 1 ∧ g' 50 21 = 0) ∧
  (tkA v n < v 2 1 → g' 50 19 = runE v (tkA v n) ∧ g' 50 21 = srt (kdT v (tkA v n) (runE v (tkA v n))) ∧ (kdT v (tkA v n) (runE v (tkA v n)) = 2 → g' 50 22 = tvW v (tkA v n) (runE v (tkA v n)) 2)) ∧ (0 ≤ g' 50 22 ∧ g' 50 22 ≤ 9999)
section MTOKEN
variable {M : List CT} {v g : HP} {i x : Int}
theorem m_isLetter {Λ : List CT} : Ok 181 [vI x] Λ g (rt (some (vI (if isLe x then 1 else 0))) Λ g) := by
  refine ok_body B_X9_isLetter rfl (fun X hX => ?_)
  refine hX 20 [] 0 _ _ _ _ _ _ ?_
  refine And.intro (fun c3 => ?_) (fun c3 => ?_)
  · have c3 : x < 97 := c3
    exact And.intro ⟨by decide, by decide⟩ (rt_mk (by rw [if_neg (fun z => by have := z.1; omega)]) rfl)
  · have c3 : 97 ≤ x := c3
    refine And.intro (fun c9 => ?_) (fun c9 => ?_)
    · have c9 : 122 < x := c9
      exact And.intro ⟨by decide, by decide⟩ (rt_mk (by rw [if_neg (fun z => by have := z.2; omega)]) rfl)
    · have c9 : x ≤ 122 := c9
      exact And.intro ⟨by decide, by decide⟩ (rt_mk (by rw [if_pos ⟨c3, c9⟩]) rfl)
theorem m_isDigit {Λ : List CT} : Ok 182 [vI x] Λ g (rt (some (vI (if isDg x then 1 else 0))) Λ g) := by
  refine ok_body B_X9_isDigit rfl (fun X hX => ?_)
  refine hX 20 [] 0 _ _ _ _ _ _ ?_
  refine And.intro (fun c3 => ?_) (fun c3 => ?_)
  · have c3 : x < 48 := c3
    exact And.intro ⟨by decide, by decide⟩ (rt_mk (by rw [if_neg (fun z => by have := z.1; omega)]) rfl)
  · have c3 : 48 ≤ x := c3
    refine And.intro (fun c9 => ?_) (fun c9 => ?_)
    · have c9 : 57 < x := c9
      exact And.intro ⟨by decide, by decide⟩ (rt_mk (by rw [if_neg (fun z => by have := z.2; omega)]) rfl)
    · have c9 : x ≤ 57 := c9
      exact And.intro ⟨by decide, by decide⟩ (rt_mk (by rw [if_pos ⟨c3, c9⟩]) rfl)
/-- the byte of a place -/
abbrev btV (v : HP) (i : Int) : Int := if i < v 2 1 then txB v i else -1
theorem m_bt (H : TxR v g) (h0 : 0 ≤ i) : Ok 180 [vR 50, vI i] (LL M) g (rt (some (vI (btV v i))) (LL M) g) := by
  by_cases z : i < v 2 1
  · have e : btV v i = g 61 i.toNat := by
      unfold btV
      rw [if_pos z, H.2.2 i.toNat (by omega), show ((i.toNat : Nat) : Int) = i by omega]
    rw [e]
    exact m_byteAt h0 (by rw [H.2.1]; exact z) (by rw [H.2.1]; exact H.1.2)
  · have e : btV v i = -1 := by unfold btV; rw [if_neg z]
    rw [e]
    exact m_byteAt_e (by rw [H.2.1]; omega)
theorem m_token (H : TxR v g) (hn : 0 ≤ g 50 19 ∧ g 50 19 ≤ v 2 1) (hb : 0 ≤ g 50 22 ∧ g 50 22 ≤ 9999) : Ok 183 [vR 50] (LL M) g (fun o Λ' g' => o = .inl none ∧ Λ' = LL M ∧ FrK g g' ∧ TokP v (g 50 19) g') := by
  refine ok_body B_X9_token rfl (fun X hX => ?_)
  obtain ⟨s, es⟩ : ∃ s, s = tkA v (g 50 19) := ⟨_, rfl⟩
  have sb := skB_bd (f := txB v) (v 2 1 - g 50 19).toNat (g 50 19)
  have sb : g 50 19 ≤ s ∧ s ≤ v 2 1 := by rw [es]; unfold tkA; omega
  have tr := txB_rng v s
  have fin : ∀ (w : Int) (g' : HP), FrK g g' → TokP v (g 50 19) g' → X 236 [vR 50, vI w] [] (LL M) g' 0 0 := by
    intro w g' hF hT
    refine hX 5 [] 236 _ _ _ _ _ _ ?_
    exact ⟨rfl, rfl, hF, hT⟩
  have loopC : ∀ (m : Nat) (g1 : HP), s < v 2 1 → isLe (txB v s) → FrK g g1 → g1 50 20 = s → v 2 1 - g1 50 19 = (m : Int) → 0 ≤ g1 50 19 → runE v s = scn (txB v) 97 122 m (g1 50 19) → (0 ≤ g1 50 22 ∧ g1 50 22 ≤ 9999) → X 76 [vR 50, vI (txB v s)] [] (LL M) g1 0 0 := by
    intro m
    induction m with
    | zero =>
      intro g1 lt le F e20 em n0 hv b22
      have hv : runE v s = g1 50 19 := hv
      refine hX 30 [103] 76 _ _ _ _ _ _ ?_
      refine Ok_rt (m_bt (TxR_K H F) n0) ?_
      refine Ok_rt m_isLetter ?_
      rw [show btV v (g1 50 19) = -1 from if_neg (by omega), if_neg (show ¬ isLe (-1) from fun z => absurd z.1 (by decide))]
      refine And.intro (fun _ => ?_) (fun c => absurd rfl c)
      refine hX 30 [236] 103 _ _ _ _ _ _ ?_
      refine fin _ _ (FrK_up F ⟨by decide, by decide⟩) ⟨by rw [up_ne (by decide), e20, es], fun z => by rw [← es] at z; omega, fun _ => ?_, by rw [up_ne (by decide)]; exact b22⟩
      have wk := wdK_ge (h := v) (i := s) (j := runE v s) 18 5 (by decide)
      have ek : kdT v s (runE v s) = wdK v s (runE v s) 18 5 := by unfold kdT; rw [if_pos le]
      rw [← es, up_ne (by decide), up_same, ek]
      refine ⟨hv.symm, ?_, fun z => by omega⟩
      unfold srt
      rw [if_neg (by omega), if_neg (by omega), if_neg (by omega), if_neg (by omega)]
    | succ m ih =>
      intro g1 lt le F e20 em n0 hv b22
      have st : scn (txB v) 97 122 (m + 1) (g1 50 19) = if isLe (txB v (g1 50 19)) then scn (txB v) 97 122 m (g1 50 19 + 1) else g1 50 19 := rfl
      rw [st] at hv
      refine hX 30 [90, 103] 76 _ _ _ _ _ _ ?_
      refine Ok_rt (m_bt (TxR_K H F) n0) ?_
      refine Ok_rt m_isLetter ?_
      rw [show btV v (g1 50 19) = txB v (g1 50 19) from if_pos (by omega)]
      by_cases z : isLe (txB v (g1 50 19))
      · rw [if_pos z] at hv ⊢
        refine And.intro (fun c => absurd c (by decide)) (fun _ => ?_)
        refine hX 30 [76] 90 _ _ _ _ _ _ ?_
        refine And.intro (show inR (g1 50 19 + 1) from ⟨by have := H.1; omega, by have := H.1; omega⟩) ?_
        refine ih _ lt le (FrK_up F ⟨by decide, by decide⟩) ((up_ne (by decide)).trans e20) (by rw [up_same]; omega) (by rw [up_same]; omega) (by rw [up_same]; exact hv) (by rw [up_ne (by decide)]; exact b22)
      · rw [if_neg z] at hv ⊢
        refine And.intro (fun _ => ?_) (fun c => absurd rfl c)
        refine hX 30 [236] 103 _ _ _ _ _ _ ?_
        refine fin _ _ (FrK_up F ⟨by decide, by decide⟩) ⟨by rw [up_ne (by decide), e20, es], fun z => by rw [← es] at z; omega, fun _ => ?_, by rw [up_ne (by decide)]; exact b22⟩
        have wk := wdK_ge (h := v) (i := s) (j := runE v s) 18 5 (by decide)
        have ek : kdT v s (runE v s) = wdK v s (runE v s) 18 5 := by unfold kdT; rw [if_pos le]
        rw [← es, up_ne (by decide), up_same, ek]
        refine ⟨hv.symm, ?_, fun z => by omega⟩
        unfold srt
        rw [if_neg (by omega), if_neg (by omega), if_neg (by omega), if_neg (by omega)]
  have at186 : ∀ (g1 : HP), s < v 2 1 → ¬ isLe (txB v s) → isDg (txB v s) → FrK g g1 → g1 50 20 = s → g1 50 19 = runE v s → (runE v s - s ≤ 4 → g1 50 22 = dgL (txB v) (runE v s - s).toNat s 0) → (0 ≤ g1 50 22 ∧ g1 50 22 ≤ 9999) → X 186 [vR 50, vI (txB v s)] [] (LL M) g1 0 0 := by
    intro g1 lt nl dg F e20 e19 ed b22
    have rb := runE_bd (h := v) (i := s) lt
    have ek : kdT v s (runE v s) = if runE v s - s ≤ 4 then 2 else 0 := by unfold kdT; rw [if_neg nl, if_pos dg]
    refine hX 30 [236] 186 _ _ _ _ _ _ ?_
    refine And.intro (show inR (g1 50 19 - g1 50 20) from ⟨by have := H.1; omega, by have := H.1; omega⟩) ?_
    refine And.intro (fun c => ?_) (fun c => ?_)
    · have c : g1 50 19 - g1 50 20 ≤ 4 := c
      have c4 : runE v s - s ≤ 4 := by omega
      refine fin _ _ (FrK_up F ⟨by decide, by decide⟩) ⟨by rw [up_ne (by decide), e20, es], fun z => by rw [← es] at z; omega, fun _ => ?_, by rw [up_ne (by decide)]; exact b22⟩
      rw [← es, up_ne (by decide), up_same, up_ne (by decide), ek, if_pos c4]
      exact ⟨e19, rfl, fun _ => by rw [ed c4]; unfold tvW; rw [if_pos rfl]⟩
    · have c : 4 < g1 50 19 - g1 50 20 := c
      have c4 : ¬ (runE v s - s ≤ 4) := by omega
      refine fin _ _ (FrK_up F ⟨by decide, by decide⟩) ⟨by rw [up_ne (by decide), e20, es], fun z => by rw [← es] at z; omega, fun _ => ?_, by rw [up_ne (by decide)]; exact b22⟩
      rw [← es, up_ne (by decide), up_same, up_ne (by decide), ek, if_neg c4]
      exact ⟨e19, rfl, fun z => absurd z (by decide)⟩
  have loopD : ∀ (m : Nat) (g1 : HP), s < v 2 1 → ¬ isLe (txB v s) → isDg (txB v s) → FrK g g1 → g1 50 20 = s → v 2 1 - g1 50 19 = (m : Int) → s ≤ g1 50 19 → runE v s = scn (txB v) 48 57 m (g1 50 19) → (runE v s - s ≤ 4 → dgL (txB v) (runE v s - g1 50 19).toNat (g1 50 19) (g1 50 22) = dgL (txB v) (runE v s - s).toNat s 0) →
      (0 ≤ g1 50 22 ∧ g1 50 22 ≤ 9999) → (g1 50 19 - s = 0 → g1 50 22 ≤ 0) → (g1 50 19 - s = 1 → g1 50 22 ≤ 9) → (g1 50 19 - s = 2 → g1 50 22 ≤ 99) → (g1 50 19 - s = 3 → g1 50 22 ≤ 999) → X 123 [vR 50, vI (txB v s)] [] (LL M) g1 0 0 := by
    intro m
    induction m with
    | zero =>
      intro g1 lt nl dg F e20 em n0 hv ed b22 _ _ _ _
      have hv : runE v s = g1 50 19 := hv
      refine hX 30 [186] 123 _ _ _ _ _ _ ?_
      refine Ok_rt (m_bt (TxR_K H F) (by omega)) ?_
      refine Ok_rt m_isDigit ?_
      rw [show btV v (g1 50 19) = -1 from if_neg (by omega), if_neg (show ¬ isDg (-1) from fun z => absurd z.1 (by decide))]
      refine And.intro (fun _ => ?_) (fun c => absurd rfl c)
      refine at186 g1 lt nl dg F e20 hv.symm (fun z => ?_) b22
      rw [← ed z, hv, show (g1 50 19 - g1 50 19).toNat = 0 by omega]
      rfl
    | succ m ih =>
      intro g1 lt nl dg F e20 em n0 hv ed b22 b0 b1 b2 b3
      have st : scn (txB v) 48 57 (m + 1) (g1 50 19) = if isDg (txB v (g1 50 19)) then scn (txB v) 48 57 m (g1 50 19 + 1) else g1 50 19 := rfl
      rw [st] at hv
      refine hX 30 [137, 186] 123 _ _ _ _ _ _ ?_
      refine Ok_rt (m_bt (TxR_K H F) (by omega)) ?_
      refine Ok_rt m_isDigit ?_
      rw [show btV v (g1 50 19) = txB v (g1 50 19) from if_pos (by omega)]
      by_cases z : isDg (txB v (g1 50 19))
      · rw [if_pos z] at hv ⊢
        have zb : 48 ≤ txB v (g1 50 19) ∧ txB v (g1 50 19) ≤ 57 := z
        have sc := scn_bd (f := txB v) (u := 48) (v := 57) m (g1 50 19 + 1)
        have fu : (runE v s - g1 50 19).toNat = (runE v s - (g1 50 19 + 1)).toNat + 1 := by omega
        refine And.intro (fun c => absurd c (by decide)) (fun _ => ?_)
        have nxt : ∀ (g2 : HP), FrK g g2 → g2 50 20 = s → g2 50 19 = g1 50 19 → (runE v s - s ≤ 4 → g2 50 22 = g1 50 22 * 10 + txB v (g1 50 19) - 48) → (0 ≤ g2 50 22 ∧ g2 50 22 ≤ 9999) → (g1 50 19 - s = 0 → g2 50 22 ≤ 9) → (g1 50 19 - s = 1 → g2 50 22 ≤ 99) → (g1 50 19 - s = 2 → g2 50 22 ≤ 999) → X 173 [vR 50, vI (txB v s)] [] (LL M) g2 0 0 := by
          intro g2 F2 f20 f19 f22 k22 k0 k1 k2
          refine hX 30 [123] 173 _ _ _ _ _ _ ?_
          refine And.intro (show inR (g2 50 19 + 1) from ⟨by have := H.1; omega, by have := H.1; omega⟩) ?_
          refine ih _ lt nl dg (FrK_up F2 ⟨by decide, by decide⟩) ((up_ne (by decide)).trans f20) (by rw [up_same]; omega) (by rw [up_same]; omega) (by rw [up_same, f19]; exact hv) (fun y => ?_) (by rw [up_ne (by decide)]; exact k22) ?_ ?_ ?_ ?_
          · rw [up_same, up_ne (by decide), f19, f22 y, ← ed y, fu]
            rfl
          · rw [up_same, up_ne (by decide)]; intro y; omega
          · rw [up_same, up_ne (by decide)]; intro y; exact k0 (by omega)
          · rw [up_same, up_ne (by decide)]; intro y; exact k1 (by omega)
          · rw [up_same, up_ne (by decide)]; intro y; exact k2 (by omega)
        refine hX 30 [150, 173] 137 _ _ _ _ _ _ ?_
        refine And.intro (show inR (g1 50 19 - g1 50 20) from ⟨by have := H.1; omega, by have := H.1; omega⟩) ?_
        refine And.intro (fun c => ?_) (fun c => ?_)
        · have c : 4 ≤ g1 50 19 - g1 50 20 := c
          refine nxt g1 F e20 rfl (fun y => by omega) b22 (fun y => by omega) (fun y => by omega) (fun y => by omega)
        · have c : g1 50 19 - g1 50 20 < 4 := c
          have nb : 0 ≤ g1 50 22 ∧ g1 50 22 ≤ 999 := by
            have cc : g1 50 19 - s = 0 ∨ g1 50 19 - s = 1 ∨ g1 50 19 - s = 2 ∨ g1 50 19 - s = 3 := by omega
            rcases cc with w | w | w | w
            · have := b0 w; omega
            · have := b1 w; omega
            · have := b2 w; omega
            · have := b3 w; omega
          refine hX 30 [173] 150 _ _ _ _ _ _ ?_
          refine And.intro (show inR (10 * g1 50 22) from ⟨by omega, by omega⟩) ?_
          refine Ok_rt (m_bt (TxR_K H F) (by omega)) ?_
          rw [show btV v (g1 50 19) = txB v (g1 50 19) from if_pos (by omega)]
          refine And.intro (show inR (10 * g1 50 22 + txB v (g1 50 19)) from ⟨by omega, by omega⟩) ?_
          refine And.intro (show inR (10 * g1 50 22 + txB v (g1 50 19) - 48) from ⟨by omega, by omega⟩) ?_
          refine nxt _ (FrK_up F ⟨by decide, by decide⟩) ((up_ne (by decide)).trans e20) (up_ne (by decide)) (fun _ => by rw [up_same]; omega) (by rw [up_same]; omega) (fun y => by rw [up_same]; have := b0 y; omega) (fun y => by rw [up_same]; have := b1 y; omega) (fun y => by rw [up_same]; have := b2 y; omega)
      · rw [if_neg z] at hv ⊢
        refine And.intro (fun _ => ?_) (fun c => absurd rfl c)
        refine at186 g1 lt nl dg F e20 hv.symm (fun y => ?_) b22
        rw [← ed y, hv, show (g1 50 19 - g1 50 19).toNat = 0 by omega]
        rfl
  have at39 : ∀ (g1 : HP) (j1 : PV), FrK g g1 → g1 50 19 = s → (0 ≤ g1 50 22 ∧ g1 50 22 ≤ 9999) → X 39 [vR 50, j1] [] (LL M) g1 0 0 := by
    intro g1 j1 F e19 b22
    obtain ⟨g2, e2⟩ : ∃ g2 : HP, g2 = up g1 50 20 (g1 50 19) := ⟨_, rfl⟩
    have F2 : FrK g g2 := by rw [e2]; exact FrK_up F ⟨by decide, by decide⟩
    have f19 : g2 50 19 = s := by rw [e2, up_ne (by decide)]; exact e19
    have f20 : g2 50 20 = s := by rw [e2, up_same]; exact e19
    have f22 : 0 ≤ g2 50 22 ∧ g2 50 22 ≤ 9999 := by rw [e2, up_ne (by decide)]; exact b22
    have go : X 47 [vR 50, j1] [] (LL M) g2 0 0 := by
      refine hX 30 [56] 47 _ _ _ _ _ _ ?_
      refine Ok_rt (m_bt (TxR_K H F2) (by omega)) ?_
      rw [f19]
      show X 56 [_, vI (btV v s)] _ _ _ _ _
      by_cases z : s < v 2 1
      · rw [show btV v s = txB v s from if_pos z]
        have fu : (v 2 1 - s).toNat = (v 2 1 - (s + 1)).toNat + 1 := by omega
        refine hX 30 [69] 56 _ _ _ _ _ _ ?_
        refine And.intro (fun _ => ?_) (fun c => absurd (show txB v s = -1 from c) (by omega))
        refine hX 30 [76, 111] 69 _ _ _ _ _ _ ?_
        refine Ok_rt m_isLetter ?_
        by_cases le : isLe (txB v s)
        · rw [if_pos le]
          refine And.intro (fun c => absurd c (by decide)) (fun _ => ?_)
          refine loopC (v 2 1 - s).toNat g2 z le F2 f20 (by omega) (by omega) ?_ f22
          rw [f19, fu]
          unfold runE
          rw [if_pos le]
          conv => rhs; unfold scn
          rw [if_pos le]
        · rw [if_neg le]
          refine And.intro (fun _ => ?_) (fun c => absurd rfl c)
          refine hX 30 [123, 211] 111 _ _ _ _ _ _ ?_
          refine Ok_rt m_isDigit ?_
          by_cases dg : isDg (txB v s)
          · rw [if_pos dg]
            refine And.intro (fun c => absurd c (by decide)) (fun _ => ?_)
            refine loopD (v 2 1 - s).toNat _ z le dg (FrK_up F2 ⟨by decide, by decide⟩) ((up_ne (by decide)).trans f20) (by rw [up_ne (by decide)]; omega) (by rw [up_ne (by decide)]; omega) ?_ (fun _ => ?_) (by rw [up_same]; exact ⟨by decide, by decide⟩) (fun _ => by rw [up_same]; decide) (fun y => by rw [up_ne (by decide)] at y; omega) (fun y => by rw [up_ne (by decide)] at y; omega) (fun y => by rw [up_ne (by decide)] at y; omega)
            · rw [up_ne (by decide), f19, fu]
              unfold runE
              rw [if_neg le, if_pos dg]
              conv => rhs; unfold scn
              rw [if_pos dg]
            · rw [up_ne (by decide), f19, up_same]
          · rw [if_neg dg]
            refine And.intro (fun _ => ?_) (fun c => absurd rfl c)
            have er : runE v s = s + 1 := by unfold runE; rw [if_neg le, if_neg dg]
            have ek : kdT v s (runE v s) = if txB v s = 59 then 3 else 0 := by unfold kdT; rw [if_neg le, if_neg dg]
            refine hX 30 [221] 211 _ _ _ _ _ _ ?_
            refine And.intro (show inR (g2 50 19 + 1) from ⟨by have := H.1; omega, by have := H.1; omega⟩) ?_
            refine hX 30 [236] 221 _ _ _ _ _ _ ?_
            refine And.intro (fun c => ?_) (fun c => ?_)
            · have c : txB v s ≠ 59 := c
              refine fin _ _ (FrK_up (FrK_up F2 ⟨by decide, by decide⟩) ⟨by decide, by decide⟩) ⟨by rw [up_ne (by decide), up_ne (by decide), f20, es], fun y => by rw [← es] at y; omega, fun _ => ?_, by rw [up_ne (by decide), up_ne (by decide)]; exact f22⟩
              rw [← es, up_ne (by decide), up_same, up_same, ek, if_neg c, er, f19]
              exact ⟨rfl, rfl, fun y => absurd y (by decide)⟩
            · have c : txB v s = 59 := c
              refine fin _ _ (FrK_up (FrK_up F2 ⟨by decide, by decide⟩) ⟨by decide, by decide⟩) ⟨by rw [up_ne (by decide), up_ne (by decide), f20, es], fun y => by rw [← es] at y; omega, fun _ => ?_, by rw [up_ne (by decide), up_ne (by decide)]; exact f22⟩
              rw [← es, up_ne (by decide), up_same, up_same, ek, if_pos c, er, f19]
              exact ⟨rfl, rfl, fun y => absurd y (by decide)⟩
      · rw [show btV v s = -1 from if_neg z]
        have sl : s = v 2 1 := by omega
        refine hX 30 [236] 56 _ _ _ _ _ _ ?_
        refine And.intro (fun c => absurd rfl c) (fun _ => ?_)
        refine fin _ _ (FrK_up F2 ⟨by decide, by decide⟩) ⟨by rw [up_ne (by decide), f20, es], fun _ => ⟨by rw [up_ne (by decide), f19]; exact sl, up_same⟩, fun y => by rw [← es] at y; omega, by rw [up_ne (by decide)]; exact f22⟩
    refine hX 30 [47] 39 _ _ _ _ _ _ ?_
    rw [e2] at go
    exact go
  have loopA : ∀ (m : Nat) (g1 : HP) (j1 : PV), FrK g g1 → v 2 1 - g1 50 19 = (m : Int) → 0 ≤ g1 50 19 → s = skB (txB v) m (g1 50 19) → (0 ≤ g1 50 22 ∧ g1 50 22 ≤ 9999) → X 0 [vR 50, j1] [] (LL M) g1 0 0 := by
    intro m
    induction m with
    | zero =>
      intro g1 j1 F em n0 hv b22
      have hv : s = g1 50 19 := hv
      refine hX 30 [26, 39] 0 _ _ _ _ _ _ ?_
      refine Ok_rt (m_bt (TxR_K H F) n0) ?_
      rw [show btV v (g1 50 19) = -1 from if_neg (by omega)]
      refine And.intro (fun c => absurd c (by decide)) (fun _ => ?_)
      refine Ok_rt (m_bt (TxR_K H F) n0) ?_
      rw [show btV v (g1 50 19) = -1 from if_neg (by omega)]
      refine And.intro (fun _ => ?_) (fun c => absurd c (by decide))
      exact at39 g1 j1 F hv.symm b22
    | succ m ih =>
      intro g1 j1 F em n0 hv b22
      have st : skB (txB v) (m + 1) (g1 50 19) = if txB v (g1 50 19) = 10 ∨ txB v (g1 50 19) = 32 then skB (txB v) m (g1 50 19 + 1) else g1 50 19 := rfl
      rw [st] at hv
      have at26 : (txB v (g1 50 19) = 10 ∨ txB v (g1 50 19) = 32) → X 26 [vR 50, j1] [] (LL M) g1 0 0 := by
        intro z
        rw [if_pos z] at hv
        refine hX 30 [0] 26 _ _ _ _ _ _ ?_
        refine And.intro (show inR (g1 50 19 + 1) from ⟨by have := H.1; omega, by have := H.1; omega⟩) ?_
        exact ih _ j1 (FrK_up F ⟨by decide, by decide⟩) (by rw [up_same]; omega) (by rw [up_same]; omega) (by rw [up_same]; exact hv) (by rw [up_ne (by decide)]; exact b22)
      refine hX 30 [26, 39] 0 _ _ _ _ _ _ ?_
      refine Ok_rt (m_bt (TxR_K H F) n0) ?_
      rw [show btV v (g1 50 19) = txB v (g1 50 19) from if_pos (by omega)]
      refine And.intro (fun c => at26 (Or.inl c)) (fun c10 => ?_)
      refine Ok_rt (m_bt (TxR_K H F) n0) ?_
      rw [show btV v (g1 50 19) = txB v (g1 50 19) from if_pos (by omega)]
      refine And.intro (fun c32 => ?_) (fun c => ?_)
      · have c10 : txB v (g1 50 19) ≠ 10 := c10
        have c32 : txB v (g1 50 19) ≠ 32 := c32
        rw [if_neg (fun y => by omega)] at hv
        exact at39 g1 j1 F hv.symm b22
      · have c : txB v (g1 50 19) = 32 := c
        exact at26 (Or.inr c)
  exact loopA (v 2 1 - g 50 19).toNat g _ (FrK_rf g) (by omega) hn.1 es hb
end MTOKEN
