/-! ===== Reader: measures and chart rows ===== -/
/-- where the token that stands here ends -/
def enH (h : HP) : Int := rdA h 17 1501 (h 4 7)
def tkS (h : HP) : Nat → Int → Int → Int
  | 0, _, a => a
  | m + 1, i, a => tkS h m (i + 1) (a + tkV (txB h i))
def tkT (h : HP) : Int := tkS h (enH h - h 4 8).toNat (h 4 8) 0
def icA (h : HP) : Nat → Int → Int
  | 0, _ => 1
  | m + 1, i => if tkV (txB h i) = -1 then 0 else icA h m (i + 1)
def icV (h : HP) : Int := if h 4 9 < 4 then 0 else if 12 < enH h - h 4 8 then 0 else icA h (enH h - h 4 8).toNat (h 4 8)
theorem tkV_bd {x : Int} : -1 ≤ tkV x ∧ tkV x ≤ 3 := by
  unfold tkV
  split
  · omega
  · split
    · omega
    · split
      · omega
      · split <;> omega
def meL (id : Int) : Nat → Int → HP → HP
  | 0, _, g => g
  | m + 1, k, g => meL id m (k + 1) (if numH g 0 3000 4 10 = 0 then wrA (numH g 0 3000) 14 132 (24 + id * 6 + k) (l2iI (tvH g)) else numH g 0 3000)
def rmA (h : HP) : HP := ptH (failH h (if 8 ≤ rdA h 7 4 1 then 1 else 0) 5) 8
def rmI (h : HP) : Int := if nnA (rmA h) 1 4 10 = 0 then rdA (rmA h) 7 4 1 else -1
def rmB (h : HP) : HP := nnP (rmA h) 1
def rmH (h : HP) : HP := ptH (meL (rmI h) (rdA (rmB h) 7 4 0).toNat 0 (rmB h)) 3
section READER5
variable {N : List CT} {h : HP} {i j k t a b w x : Int}
theorem takenHere_ok (hp : 0 ≤ h 4 8 ∧ h 4 8 ≤ 1501) (he : enH h ≤ 1501) : Ok 85 [vR 4] (LC N) h (rt (some (vI (tkT h))) (LC N) h) := by
  refine ok_body B_X4_takenHere rfl (fun X hX => ?_)
  have loop : ∀ (m : Nat) (i a : Int), (i < enH h → enH h - i = (m : Int)) → (enH h ≤ i → m = 0) → 0 ≤ i → i ≤ 1501 → -i ≤ a → a ≤ 3 * i → tkT h = tkS h m i a → X 19 [vR 4, vI (enH h), vI a, vI i] [] (LC N) h 0 0 := by
    intro m
    induction m with
    | zero =>
      intro i a h1 h2 i0 i1 a0 a1 hv
      refine hX 30 [] 19 _ _ _ _ _ _ ?_
      refine And.intro (fun _ => ?_) (fun c => ?_)
      · exact rt_mk (by rw [hv]; rfl) rfl
      · have c : i < enH h := c
        have := h1 c
        omega
    | succ m ih =>
      intro i a h1 h2 i0 i1 a0 a1 hv
      have st : tkS h (m + 1) i a = tkS h m (i + 1) (a + tkV (txB h i)) := rfl
      rw [st] at hv
      have lt : i < enH h := by
        by_cases z : i < enH h
        · exact z
        · have := h2 (by omega)
          omega
      have e1 := h1 lt
      have tb := tkV_bd (x := txB h i)
      refine hX 30 [38] 19 _ _ _ _ _ _ ?_
      refine And.intro (fun c => absurd c (by omega)) (fun _ => ?_)
      refine Ok_rt byteAt_ok ?_
      refine Ok_rt takenBy_ok ?_
      refine And.intro ⟨by omega, by omega⟩ ?_
      show X 38 [_, _, vI (a + tkV (txB h i)), _] _ _ _ _ _
      refine hX 30 [19] 38 _ _ _ _ _ _ ?_
      refine And.intro ⟨by omega, by omega⟩ ?_
      exact ih (i + 1) (a + tkV (txB h i)) (fun _ => by omega) (fun _ => by omega) (by omega) (by omega) (by omega) (by omega) hv
  refine hX 30 [12, 14, 19] 0 _ _ _ _ _ _ ?_
  refine Ok_rt (at_ok (a := 17) (len := 1501) rfl (by decide)) ?_
  show X 12 [_, vI (enH h), _, _] _ _ _ _ _
  refine hX 30 [14, 19] 12 _ _ _ _ _ _ ?_
  show X 14 [_, _, vI 0, _] _ _ _ _ _
  refine hX 30 [19] 14 _ _ _ _ _ _ ?_
  exact loop (enH h - h 4 8).toNat (h 4 8) 0 (fun _ => by omega) (fun _ => by omega) hp.1 hp.2 (by omega) (by omega) rfl
theorem isChartRowHere_ok (hp : 0 ≤ h 4 8 ∧ h 4 8 ≤ 1501) (he : -1 ≤ enH h ∧ enH h ≤ 1501) : Ok 84 [vR 4] (LC N) h (rt (some (vI (icV h))) (LC N) h) := by
  refine ok_body B_X4_isChartRowHere rfl (fun X hX => ?_)
  have loop : ∀ (m : Nat) (i : Int), (i < enH h → enH h - i = (m : Int)) → (enH h ≤ i → m = 0) → 0 ≤ i → i ≤ 1501 → icV h = icA h m i → X 38 [vR 4, vI (enH h), vI i] [] (LC N) h 0 0 := by
    intro m
    induction m with
    | zero =>
      intro i h1 h2 i0 i1 hv
      refine hX 30 [] 38 _ _ _ _ _ _ ?_
      refine And.intro (fun _ => ?_) (fun c => ?_)
      · exact And.intro ⟨by decide, by decide⟩ (rt_mk (by rw [hv]; rfl) rfl)
      · have c : i < enH h := c
        have := h1 c
        omega
    | succ m ih =>
      intro i h1 h2 i0 i1 hv
      have st : icA h (m + 1) i = if tkV (txB h i) = -1 then 0 else icA h m (i + 1) := rfl
      rw [st] at hv
      have lt : i < enH h := by
        by_cases z : i < enH h
        · exact z
        · have := h2 (by omega)
          omega
      have e1 := h1 lt
      refine hX 30 [38] 38 _ _ _ _ _ _ ?_
      refine And.intro (fun c => absurd c (by omega)) (fun _ => ?_)
      refine Ok_rt byteAt_ok ?_
      refine Ok_rt takenBy_ok ?_
      refine And.intro (fun c => ?_) (fun c => ?_)
      · have c : tkV (txB h i) ≠ -1 := c
        rw [if_neg c] at hv
        refine And.intro ⟨by omega, by omega⟩ ?_
        exact ih (i + 1) (fun _ => by omega) (fun _ => by omega) (by omega) (by omega) hv
      · have c : tkV (txB h i) = -1 := c
        rw [if_pos c] at hv
        exact And.intro ⟨by decide, by decide⟩ (rt_mk (by rw [hv]) rfl)
  refine hX 30 [12, 38] 0 _ _ _ _ _ _ ?_
  refine Ok_rt (at_ok (a := 17) (len := 1501) rfl (by decide)) ?_
  show X 12 [_, vI (enH h), _] _ _ _ _ _
  refine hX 30 [38] 12 _ _ _ _ _ _ ?_
  refine And.intro (fun c => ?_) (fun c => ?_)
  · have c : h 4 9 < 4 := c
    exact And.intro ⟨by decide, by decide⟩ (rt_mk (by unfold icV; rw [if_pos c]) rfl)
  · have c : 4 ≤ h 4 9 := c
    refine And.intro ⟨by omega, by omega⟩ ?_
    refine And.intro (fun d => ?_) (fun d => ?_)
    · have d : enH h - h 4 8 ≤ 12 := d
      exact loop (enH h - h 4 8).toNat (h 4 8) (fun _ => by omega) (fun _ => by omega) hp.1 hp.2 (by unfold icV; rw [if_neg (by omega), if_neg (by omega)])
    · have d : 12 < enH h - h 4 8 := d
      exact And.intro ⟨by decide, by decide⟩ (rt_mk (by unfold icV; rw [if_neg (by omega), if_pos d]) rfl)
theorem readMeasure_ok (h7 : -1 ≤ h 4 7 ∧ h 4 7 ≤ 1900) (hn : 0 ≤ rdA h 7 4 0 ∧ rdA h 7 4 0 ≤ 50) (hm : 0 ≤ rdA h 7 4 1 ∧ rdA h 7 4 1 ≤ 900) : Ok 81 [vR 4] (LC N) h (rt none (LC N) (rmH h)) := by
  refine ok_body B_X4_readMeasure rfl (fun X hX => ?_)
  have bA : h 4 7 ≤ rmA h 4 7 ∧ rmA h 4 7 ≤ h 4 7 + 1 := by
    have := pt_bd (h := failH h (if 8 ≤ rdA h 7 4 1 then 1 else 0) 5) (k := 8)
    rw [fail_7] at this
    exact this
  have cA : ∀ i, rdA (rmA h) 7 4 i = rdA h 7 4 i := fun i => by
    unfold rdA rmA
    rw [pt_cell (by decide), failH_cell (by decide)]
  have bB : rmA h 4 7 ≤ rmB h 4 7 ∧ rmB h 4 7 ≤ rmA h 4 7 + 1 := nn_bd
  have nB : rdA (rmA h) 7 4 0 ≤ rdA (rmB h) 7 4 0 ∧ rdA (rmB h) 7 4 0 ≤ rdA (rmA h) 7 4 0 + 1 := nn_cnt ⟨by decide, by decide⟩
  rw [cA 0] at nB
  have iB : -1 ≤ rmI h ∧ rmI h ≤ 900 := by
    unfold rmI
    rw [cA 1]
    split <;> omega
  have loop : ∀ (m : Nat) (k : Int) (g : HP) (j4 : PV), k + (m : Int) = rdA (rmB h) 7 4 0 → 0 ≤ k → -1 ≤ g 4 7 → g 4 7 ≤ 1902 + k → rmH h = ptH (meL (rmI h) m k g) 3 → X 36 [vR 4, vI (rmI h), vI (rdA (rmB h) 7 4 0), vI k, j4] [] (LC N) g 0 0 := by
    intro m
    induction m with
    | zero =>
      intro k g j4 hk k0 b0 b1 hv
      refine hX 30 [] 36 _ _ _ _ _ _ ?_
      refine And.intro (fun _ => ?_) (fun c => absurd c (by omega))
      refine Ok_rt (pt_ok ⟨b0, by omega⟩) ?_
      exact rt_mk rfl hv.symm
    | succ m ih =>
      intro k g j4 hk k0 b0 b1 hv
      have bn := num_bd (h := g) (a := 0) (b := 3000)
      have st : meL (rmI h) (m + 1) k g = meL (rmI h) m (k + 1) (if numH g 0 3000 4 10 = 0 then wrA (numH g 0 3000) 14 132 (24 + rmI h * 6 + k) (l2iI (tvH g)) else numH g 0 3000) := rfl
      rw [st] at hv
      have nxt : ∀ g', g' 4 = numH g 0 3000 4 → rmH h = ptH (meL (rmI h) m (k + 1) g') 3 → X 69 [vR 4, vI (rmI h), vI (rdA (rmB h) 7 4 0), vI k, vI (l2iI (tvH g))] [] (LC N) g' 0 0 := by
        intro g' e4 hv2
        refine hX 30 [36] 69 _ _ _ _ _ _ ?_
        refine And.intro ⟨by omega, by omega⟩ ?_
        exact ih (k + 1) g' _ (by omega) (by omega) (by rw [e4]; omega) (by rw [e4]; omega) hv2
      refine hX 30 [51] 36 _ _ _ _ _ _ ?_
      refine And.intro (fun c => absurd c (by omega)) (fun _ => ?_)
      refine Ok_rt (readNumber_ok ⟨b0, by omega⟩) ?_
      show X 51 [_, _, _, _, vI (l2iI (tvH g))] _ _ _ _ _
      refine hX 30 [69] 51 _ _ _ _ _ _ ?_
      refine And.intro (fun c => ?_) (fun c => ?_)
      · have c : numH g 0 3000 4 10 ≠ 0 := c
        rw [if_neg c] at hv
        exact nxt _ rfl hv
      · have c : numH g 0 3000 4 10 = 0 := c
        rw [if_pos c] at hv
        refine Ok_rt (setMeasured_ok (o := 13) (Or.inl rfl) ⟨by omega, by omega⟩ ⟨by omega, by omega⟩) ?_
        exact nxt _ (wrA_cell (by decide)) hv
  refine hX 40 [25] 0 _ _ _ _ _ _ ?_
  refine Ok_rt (isFull_ok (p := 5) (b := 8) (Or.inl rfl) (Or.inr (Or.inl ⟨rfl, rfl⟩))) ?_
  refine Ok_rt failIf_ok ?_
  refine Ok_rt (pt_ok (h := failH h (if 8 ≤ rdA h 7 4 1 then 1 else 0) 5) (by rw [fail_7]; exact ⟨by omega, by omega⟩)) ?_
  refine Ok_rt (nn_ok (h := rmA h) ⟨by decide, by decide⟩ (by rw [cA 1]; exact ⟨hm.1, by omega⟩) ⟨by omega, by omega⟩) ?_
  show X 25 [_, vI (rmI h), _, _, _] _ _ (rmB h) _ _
  refine hX 40 [34, 36] 25 _ _ _ _ _ _ ?_
  refine Ok_rt (total_ok (p := 5) (Or.inl rfl)) ?_
  show X 34 [_, _, vI (rdA (rmB h) 7 4 0), _, _] _ _ _ _ _
  refine hX 40 [36] 34 _ _ _ _ _ _ ?_
  exact loop (rdA (rmB h) 7 4 0).toNat 0 (rmB h) _ (by omega) (by omega) (by omega) (by omega) rfl
end READER5
