/-! ===== Reader: splitTokens, readNewName ===== -/
theorem scn_bd {f : Int → Int} {u v : Int} : ∀ (m : Nat) (e : Int), e ≤ scn f u v m e ∧ scn f u v m e ≤ e + (m : Int)
  | 0, e => ⟨Int.le_refl _, by show e ≤ e + ((0 : Nat) : Int); omega⟩
  | m + 1, e => by
    unfold scn
    split
    · have := scn_bd (f := f) (u := u) (v := v) m (e + 1)
      omega
    · omega
theorem scn_all {f : Int → Int} {u v : Int} : ∀ (m : Nat) (e q : Int), e ≤ q → q < scn f u v m e → u ≤ f q ∧ f q ≤ v
  | 0, e, q, h1, h2 => by
    have h2 : q < e := h2
    omega
  | m + 1, e, q, h1, h2 => by
    unfold scn at h2
    split at h2
    · next z =>
      by_cases y : q = e
      · rw [y]; exact z
      · exact scn_all m (e + 1) q (by omega) h2
    · omega
theorem wdK_ge {h : HP} {i j : Int} : ∀ (m k : Nat), 4 ≤ k → 4 ≤ wdK h i j m k
  | 0, _, _ => Int.le_refl _
  | m + 1, k, hk => by
    unfold wdK
    split
    · omega
    · exact wdK_ge m (k + 1) (by omega)
theorem runE_bd {h : HP} {i : Int} (hi : i < h 2 1) : i < runE h i ∧ runE h i ≤ h 2 1 := by
  unfold runE
  split
  · have := scn_bd (f := txB h) (u := 97) (v := 122) (h 2 1 - (i + 1)).toNat (i + 1)
    omega
  · split
    · have := scn_bd (f := txB h) (u := 48) (v := 57) (h 2 1 - (i + 1)).toNat (i + 1)
      omega
    · omega
theorem kd_dig {h : HP} {i : Int} (hi : i < h 2 1) (hk : kdT h i (runE h i) = 2) : (i ≤ runE h i ∧ runE h i ≤ i + 4) ∧ ∀ q, i ≤ q → q < runE h i → 48 ≤ txB h q ∧ txB h q ≤ 57 := by
  have rb := runE_bd hi
  unfold kdT at hk
  by_cases z : isLe (txB h i)
  · rw [if_pos z] at hk
    have := wdK_ge (h := h) (i := i) (j := runE h i) 18 5 (by decide)
    omega
  · rw [if_neg z] at hk
    by_cases y : isDg (txB h i)
    · rw [if_pos y] at hk
      by_cases w : runE h i - i ≤ 4
      · refine ⟨⟨by omega, by omega⟩, fun q q0 q1 => ?_⟩
        by_cases e : q = i
        · rw [e]; exact y
        · have er : runE h i = scn (txB h) 48 57 (h 2 1 - (i + 1)).toNat (i + 1) := by unfold runE; rw [if_neg z, if_pos y]
          rw [er] at q1
          exact scn_all _ _ q (by omega) q1
      · rw [if_neg w] at hk
        omega
    · rw [if_neg y] at hk
      split at hk
      · omega
      · omega
def splT (tl : Int) : Nat → Int → Int → HP → HP
  | 0, t, _, h => tokH h t tl tl 1
  | m + 1, t, p, h => if p < tl then (if txB h p = 10 ∨ txB h p = 32 then splT tl m t (runE h p) h else splT tl m (t + 1) (runE h p) (tokH h t p (runE h p) (kdT h p (runE h p)))) else tokH h t tl tl 1
theorem tokH_cell {h : HP} {t a b k : Int} {q : Nat} (h1 : q ≠ 15) (h2 : q ≠ 16) (h3 : q ≠ 17) (h4 : q ≠ 18) : tokH h t a b k q = h q := by
  unfold tokH tokB
  rw [wrA_cell h4, wrA_cell h1, wrA_cell h3, wrA_cell h2]
def capI (i : Int) : Int := if i = 1 then 8 else if i = 2 then 4 else 6
def nnA (h : HP) (i : Int) : HP := failH (failH (failH h (nameB h) 1) (if numN h i (tvH h) = -1 then 0 else 1) 3) (if capI i ≤ rdA h 7 4 i then 1 else 0) 5
def nnB (h : HP) (i : Int) : HP := if nnA h i 4 10 = 0 then addNameH (nnA h i) 5 i (tvH h) else nnA h i
theorem addNameH_4 {h : HP} {i w : Int} : addNameH h 5 i w 4 = h 4 := by
  unfold addNameH addNameN
  split
  · split
    · rw [wrA_cell (by decide), wrA_cell (by decide), wrA_cell (by decide), wrA_cell (by decide)]
    · rw [wrA_cell (by decide), wrA_cell (by decide), wrA_cell (by decide)]
  · split
    · rw [wrA_cell (by decide), wrA_cell (by decide), wrA_cell (by decide)]
    · rw [wrA_cell (by decide), wrA_cell (by decide)]
section READER3
variable {N : List CT} {h : HP} {i j k t a b w : Int}
theorem splitTokens_ok (h0 : 0 ≤ h 2 1) (ht : h 2 1 ≤ 1500) : Ok 66 [vR 4] (LC N) h (rt none (LC N) (splT (h 2 1) (h 2 1).toNat 0 0 h)) := by
  refine ok_body B_X4_splitTokens rfl (fun X hX => ?_)
  have fin : ∀ (h1 : HP) (t p r : Int) (j5 : PV), splT (h 2 1) (h 2 1).toNat 0 0 h = tokH h1 t (h 2 1) (h 2 1) 1 → X 71 [vR 4, vI (h 2 1), vI t, vI p, vI r, j5] [] (LC N) h1 0 0 := by
    intro h1 t p r j5 hv
    refine hX 20 [] 71 _ _ _ _ _ _ ?_
    refine Ok_rt (setToken_ok ⟨by omega, by omega⟩ ⟨by omega, by omega⟩ (fun c => absurd c (by decide))) ?_
    exact rt_mk rfl hv.symm
  have loop : ∀ (m : Nat) (r t p : Int) (h1 : HP) (j5 : PV), h1 2 1 = h 2 1 → r + (m : Int) = h 2 1 → 0 ≤ r → 0 ≤ t → t ≤ r → 0 ≤ p → p ≤ h 2 1 → splT (h 2 1) (h 2 1).toNat 0 0 h = splT (h 2 1) m t p h1 → X 15 [vR 4, vI (h 2 1), vI t, vI p, vI r, j5] [] (LC N) h1 0 0 := by
    intro m
    induction m with
    | zero =>
      intro r t p h1 j5 e2 hr r0 t0 t1 p0 p1 hv
      refine hX 20 [71] 15 _ _ _ _ _ _ ?_
      refine And.intro (fun _ => ?_) (fun c => absurd c (by omega))
      exact fin h1 t p r j5 hv
    | succ m ih =>
      intro r t p h1 j5 e2 hr r0 t0 t1 p0 p1 hv
      have st : splT (h 2 1) (m + 1) t p h1 = if p < h 2 1 then (if txB h1 p = 10 ∨ txB h1 p = 32 then splT (h 2 1) m t (runE h1 p) h1 else splT (h 2 1) m (t + 1) (runE h1 p) (tokH h1 t p (runE h1 p) (kdT h1 p (runE h1 p)))) else tokH h1 t (h 2 1) (h 2 1) 1 := rfl
      rw [st] at hv
      refine hX 30 [33, 71] 15 _ _ _ _ _ _ ?_
      refine And.intro (fun c => absurd c (by omega)) (fun _ => ?_)
      refine And.intro (fun c => ?_) (fun c => ?_)
      · have c : h 2 1 ≤ p := c
        rw [if_neg (by omega)] at hv
        exact fin h1 t p r j5 hv
      · have c : p < h 2 1 := c
        rw [if_pos c] at hv
        have rb := runE_bd (h := h1) (i := p) (by omega)
        refine Ok_rt (runEnd_ok ⟨by omega, by omega⟩ (by omega)) ?_
        show X 33 [_, _, _, _, _, vI (runE h1 p)] _ _ _ _ _
        refine hX 30 [62] 33 _ _ _ _ _ _ ?_
        refine Ok_rt isBlank_ok ?_
        have nxt : ∀ (t' : Int) (h2 : HP), h2 2 1 = h 2 1 → 0 ≤ t' → t' ≤ t + 1 → splT (h 2 1) (h 2 1).toNat 0 0 h = splT (h 2 1) m t' (runE h1 p) h2 → X 62 [vR 4, vI (h 2 1), vI t', vI p, vI r, vI (runE h1 p)] [] (LC N) h2 0 0 := by
          intro t' h2 g2 w0 w1 hv2
          refine hX 30 [15, 65] 62 _ _ _ _ _ _ ?_
          show X 65 [_, _, _, _, _, _] _ _ _ _ _
          refine hX 30 [15] 65 _ _ _ _ _ _ ?_
          refine And.intro ⟨by omega, by omega⟩ ?_
          exact ih (r + 1) t' (runE h1 p) h2 _ g2 (by omega) (by omega) w0 (by omega) (by omega) (by omega) hv2
        by_cases z : txB h1 p = 10 ∨ txB h1 p = 32
        · rw [if_pos z] at hv
          rw [if_pos z]
          refine And.intro (fun _ => ?_) (fun c => absurd c (by decide))
          exact nxt t h1 e2 t0 (by omega) hv
        · rw [if_neg z] at hv
          rw [if_neg z]
          refine And.intro (fun c => absurd rfl c) (fun _ => ?_)
          refine Ok_rt (kindOf_ok ⟨by omega, by omega⟩ ⟨by omega, by omega⟩) ?_
          refine Ok_rt (setToken_ok ⟨by omega, by omega⟩ ⟨by omega, by omega⟩ (fun ek => kd_dig (by omega) ek)) ?_
          refine And.intro ⟨by omega, by omega⟩ ?_
          exact nxt (t + 1) _ (by rw [tokH_cell (by decide) (by decide) (by decide) (by decide)]; exact e2) (by omega) (by omega) hv
  refine hX 30 [8, 10, 12, 15] 0 _ _ _ _ _ _ ?_
  show X 8 [_, _, _, _, _, _] _ _ _ _ _
  refine hX 30 [10, 12, 15] 8 _ _ _ _ _ _ ?_
  show X 10 [_, _, _, _, _, _] _ _ _ _ _
  refine hX 30 [12, 15] 10 _ _ _ _ _ _ ?_
  show X 12 [_, _, _, _, _, _] _ _ _ _ _
  refine hX 30 [15] 12 _ _ _ _ _ _ ?_
  exact loop (h 2 1).toNat 0 0 0 h _ rfl (by omega) (by omega) (by omega) (by omega) (by omega) h0 rfl
theorem readNewName_ok (hi : 0 ≤ i ∧ i ≤ 3) (hn : 0 ≤ rdA h 7 4 i ∧ rdA h 7 4 i ≤ 1000) (h7 : -1 ≤ h 4 7 ∧ h 4 7 ≤ 2000) : Ok 77 [vR 4, vI i] (LC N) h (rt (some (vI (if nnA h i 4 10 = 0 then rdA h 7 4 i else -1))) (LC N) (passH (nnB h i))) := by
  refine ok_body B_X4_readNewName rfl (fun X hX => ?_)
  obtain ⟨h1, e1⟩ : ∃ h1 : HP, h1 = failH h (nameB h) 1 := ⟨_, rfl⟩
  obtain ⟨h2, e2⟩ : ∃ h2 : HP, h2 = failH h1 (if numN h i (tvH h) = -1 then 0 else 1) 3 := ⟨_, rfl⟩
  obtain ⟨h3, e3⟩ : ∃ h3 : HP, h3 = failH h2 (if capI i ≤ rdA h 7 4 i then 1 else 0) 5 := ⟨_, rfl⟩
  have eA : nnA h i = h3 := by unfold nnA; rw [e3, e2, e1]
  have c1 : ∀ q, q ≠ 4 → h1 q = h q := fun q hq => by rw [e1, failH_cell hq]
  have c2 : ∀ q, q ≠ 4 → h2 q = h q := fun q hq => by rw [e2, failH_cell hq, c1 q hq]
  have c3 : ∀ q, q ≠ 4 → h3 q = h q := fun q hq => by rw [e3, failH_cell hq, c2 q hq]
  have e7 : h3 4 7 = h 4 7 := by rw [e3, failH_7 (by decide) (by decide) (by decide), e2, failH_7 (by decide) (by decide) (by decide), e1, failH_7 (by decide) (by decide) (by decide)]
  have eN : numN h1 i (tvH h) = numN h i (tvH h) := by unfold numN rdA; rw [c1 6 (by decide), c1 7 (by decide)]
  have n1 : rdA h1 7 4 i = rdA h 7 4 i := by unfold rdA; rw [c1 7 (by decide)]
  have n2 : rdA h2 7 4 i = rdA h 7 4 i := by unfold rdA; rw [c2 7 (by decide)]
  have n3 : rdA h3 7 4 i = rdA h 7 4 i := by unfold rdA; rw [c3 7 (by decide)]
  have last : ∀ (v : Int) (h4 : HP), h4 4 = h3 4 → v = (if nnA h i 4 10 = 0 then rdA h 7 4 i else -1) → h4 = nnB h i → X 61 [vR 4, vI i, vL (tvH h), vU, vU] [vI v] (LC N) h4 0 0 := by
    intro v h4 e4 hv h4v
    refine hX 30 [63] 61 _ _ _ _ _ _ ?_
    show X 63 [_, _, _, _, vI v] _ _ _ _ _
    refine hX 30 [] 63 _ _ _ _ _ _ ?_
    refine Ok_rt (pass_ok (by rw [e4, e7]; exact h7)) ?_
    exact rt_mk (by rw [hv]) (by rw [h4v])
  have mid : ∀ y, y = (if numN h i (tvH h) = -1 then (0 : Int) else 1) → X 24 [vR 4, vI i, vL (tvH h), vU, vU] [vI y, vR 4] (LC N) h1 0 0 := by
    intro y hy
    refine hX 60 [61] 24 _ _ _ _ _ _ ?_
    refine Ok_rt failIf_ok ?_
    rw [hy, ← e2]
    refine Ok_rt (isFull_ok (p := 5) (b := capI i) (Or.inl rfl) (by
      have c : i = 0 ∨ i = 1 ∨ i = 2 ∨ i = 3 := by omega
      rcases c with rfl | rfl | rfl | rfl
      · exact Or.inl ⟨rfl, rfl⟩
      · exact Or.inr (Or.inl ⟨rfl, rfl⟩)
      · exact Or.inr (Or.inr (Or.inl ⟨rfl, rfl⟩))
      · exact Or.inr (Or.inr (Or.inr ⟨rfl, rfl⟩)))) ?_
    rw [show rdA h2 (5 + 2) 4 i = rdA h 7 4 i from n2]
    refine Ok_rt failIf_ok ?_
    rw [← e3]
    refine And.intro (fun c => ?_) (fun c => ?_)
    · have c : h3 4 10 ≠ 0 := c
      exact last (-1) h3 rfl (by rw [eA, if_neg c]) (by unfold nnB; rw [eA, if_neg c])
    · have c : h3 4 10 = 0 := c
      refine Ok_rt (addName_ok (p := 5) (Or.inl rfl) hi (show 0 ≤ rdA h3 7 4 i ∧ rdA h3 7 4 i ≤ 1000 by rw [n3]; exact hn)) ?_
      exact last _ _ addNameH_4 (by rw [eA, if_pos c]; exact n3) (by unfold nnB; rw [eA, if_pos c])
  refine hX 60 [5] 0 _ _ _ _ _ _ ?_
  refine Ok_rt nameHere_ok ?_
  rw [← e1]
  show X 5 [_, _, vL (tvH h), _, _] _ _ _ _ _
  refine hX 60 [24] 5 _ _ _ _ _ _ ?_
  refine Ok_rt (numberOf_ok (p := 5) (n := rdA h1 7 4 i) (Or.inl rfl) (by omega) rfl (by rw [n1]; exact hn.2)) ?_
  have eN2 : fstI (fun q => rdA h1 (5 + 1) 32 (i * 8 + q) == tvH h) (rdA h1 7 4 i).toNat 0 = numN h i (tvH h) := eN
  rw [eN2]
  refine And.intro (fun c => ?_) (fun c => ?_)
  · have c : numN h i (tvH h) = -1 := c
    exact mid _ (by rw [if_pos c])
  · have c : numN h i (tvH h) ≠ -1 := c
    exact mid _ (by rw [if_neg c])
end READER3
