/-! ===== Reader: tokens ===== -/
abbrev isLe (x : Int) : Prop := 97 ≤ x ∧ x ≤ 122
abbrev isDg (x : Int) : Prop := 48 ≤ x ∧ x ≤ 57
/-- a run of places whose byte is of a kind -/
def scn (f : Int → Int) (u v : Int) : Nat → Int → Int
  | 0, e => e
  | m + 1, e => if u ≤ f e ∧ f e ≤ v then scn f u v m (e + 1) else e
def runE (h : HP) (i : Int) : Int := if isLe (txB h i) then scn (txB h) 97 122 (h 2 1 - (i + 1)).toNat (i + 1) else if isDg (txB h i) then scn (txB h) 48 57 (h 2 1 - (i + 1)).toNat (i + 1) else i + 1
/-- the place of a word in the list of words -/
abbrev wdIs (h : HP) (i j : Int) (s : Nat) : Prop := j - i = (lenS s : Int) ∧ allI (fun q => txB h (i + q) == chrS s q) (lenS s) 0 = true
def wdK (h : HP) (i j : Int) : Nat → Nat → Int
  | 0, _ => 4
  | m + 1, k => if wdIs h i j (k - 4) then (k : Int) else wdK h i j m (k + 1)
def kdT (h : HP) (i j : Int) : Int := if isLe (txB h i) then wdK h i j 18 5 else if isDg (txB h i) then (if j - i ≤ 4 then 2 else 0) else if txB h i = 59 then 3 else 0
def tokB (h : HP) (t a b k : Int) : HP := wrA (wrA (wrA h 16 1501 t a) 17 1501 t b) 15 1501 t k
def tokH (h : HP) (t a b k : Int) : HP := wrA (tokB h t a b k) 18 1501 t (if k = 2 then dgL (txB h) (b - a).toNat a 0 else if 8 < b - a then 0 else pkL (txB h) (b - a).toNat a 0)
theorem txB_tok {h : HP} {t a b k : Int} : txB (tokB h t a b k) = txB h := by
  funext q
  unfold txB tokB
  rw [wrA_cell (by decide), wrA_cell (by decide), wrA_cell (by decide), wrA_cell (by decide), wrA_cell (by decide), wrA_cell (by decide)]
section READER2
variable {N : List CT} {h : HP} {i j k t a b w : Int}
theorem wordOf_ok {k : Nat} (h1 : 5 ≤ k) (h2 : k ≤ 22) : Ok 71 [vI (k : Int)] (LC N) h (rt (some (vR (1000 + (k - 4)))) (LC N) h) := by
  refine ok_body B_X4_wordOf rfl (fun X hX => ?_)
  refine hX 10 [] 0 _ _ _ _ _ _ ?_
  refine And.intro (fun d => ?_) (And.intro (fun d => ?_) (And.intro (fun d => ?_) (And.intro (fun d => ?_) (And.intro (fun d => ?_) (And.intro (fun d => ?_) (And.intro (fun d => ?_) (And.intro (fun d => ?_) (And.intro (fun d => ?_) (And.intro (fun d => ?_) (And.intro (fun d => ?_) (And.intro (fun d => ?_) (And.intro (fun d => ?_) (And.intro (fun d => ?_) (And.intro (fun d => ?_) (And.intro (fun d => ?_) (And.intro (fun d => ?_) (And.intro (fun d => ?_) True.intro)))))))))))))))))
  · have d : (k : Int) < 5 ∨ (22 : Int) ≤ (k : Int) := by simpa using d
    have e : k = 22 := by omega
    subst e
    exact rt_mk rfl rfl
  · have d : (k : Int) = 5 := d
    have e : k = 5 := by omega
    subst e
    exact rt_mk rfl rfl
  · have d : (k : Int) = 6 := d
    have e : k = 6 := by omega
    subst e
    exact rt_mk rfl rfl
  · have d : (k : Int) = 7 := d
    have e : k = 7 := by omega
    subst e
    exact rt_mk rfl rfl
  · have d : (k : Int) = 8 := d
    have e : k = 8 := by omega
    subst e
    exact rt_mk rfl rfl
  · have d : (k : Int) = 9 := d
    have e : k = 9 := by omega
    subst e
    exact rt_mk rfl rfl
  · have d : (k : Int) = 10 := d
    have e : k = 10 := by omega
    subst e
    exact rt_mk rfl rfl
  · have d : (k : Int) = 11 := d
    have e : k = 11 := by omega
    subst e
    exact rt_mk rfl rfl
  · have d : (k : Int) = 12 := d
    have e : k = 12 := by omega
    subst e
    exact rt_mk rfl rfl
  · have d : (k : Int) = 13 := d
    have e : k = 13 := by omega
    subst e
    exact rt_mk rfl rfl
  · have d : (k : Int) = 14 := d
    have e : k = 14 := by omega
    subst e
    exact rt_mk rfl rfl
  · have d : (k : Int) = 15 := d
    have e : k = 15 := by omega
    subst e
    exact rt_mk rfl rfl
  · have d : (k : Int) = 16 := d
    have e : k = 16 := by omega
    subst e
    exact rt_mk rfl rfl
  · have d : (k : Int) = 17 := d
    have e : k = 17 := by omega
    subst e
    exact rt_mk rfl rfl
  · have d : (k : Int) = 18 := d
    have e : k = 18 := by omega
    subst e
    exact rt_mk rfl rfl
  · have d : (k : Int) = 19 := d
    have e : k = 19 := by omega
    subst e
    exact rt_mk rfl rfl
  · have d : (k : Int) = 20 := d
    have e : k = 20 := by omega
    subst e
    exact rt_mk rfl rfl
  · have d : (k : Int) = 21 := d
    have e : k = 21 := by omega
    subst e
    exact rt_mk rfl rfl
theorem wordKind_ok (hi : 0 ≤ i ∧ i ≤ 1500) (hj : 0 ≤ j ∧ j ≤ 1501) : Ok 70 [vR 4, vI i, vI j] (LC N) h (rt (some (vI (wdK h i j 18 5))) (LC N) h) := by
  refine ok_body B_X4_wordKind rfl (fun X hX => ?_)
  have loop : ∀ (m k : Nat), k + m = 23 → 5 ≤ k → wdK h i j 18 5 = wdK h i j m k → X 2 [vR 4, vI i, vI j, vI (k : Int)] [] (LC N) h 0 0 := by
    intro m
    induction m with
    | zero =>
      intro k hk h5 hv
      refine hX 20 [] 2 _ _ _ _ _ _ ?_
      refine And.intro (fun c5 => ?_) (fun c5 => absurd c5 (by omega))
      exact rt_mk (by rw [hv]; rfl) rfl
    | succ m ih =>
      intro k hk h5 hv
      have st : wdK h i j (m + 1) k = if wdIs h i j (k - 4) then (k : Int) else wdK h i j m (k + 1) := rfl
      rw [st] at hv
      refine hX 40 [2] 2 _ _ _ _ _ _ ?_
      refine And.intro (fun c5 => absurd c5 (by omega)) (fun c5 => ?_)
      refine Ok_rt (wordOf_ok (by omega) (by omega)) ?_
      refine Ok_rt (holdsWord_ok (show k - 4 < nStr by unfold nStr; omega) ⟨by omega, by omega⟩ ⟨by omega, by omega⟩) ?_
      have nxt : ¬ wdIs h i j (k - 4) → X 2 [vR 4, vI i, vI j, vI ((k : Int) + 1)] [] (LC N) h 0 0 := fun z => by
        rw [if_neg z] at hv
        exact ih (k + 1) (by omega) (by omega) hv
      by_cases z : wdIs h i j (k - 4)
      · rw [if_pos z] at hv
        rw [if_pos (show j - i = (lenS (k - 4) : Int) ∧ allI (fun q => txB h (i + q) == chrS (k - 4) q) (lenS (k - 4)) 0 = true from z)]
        refine And.intro (fun c => absurd c (by decide)) (fun _ => ?_)
        exact rt_mk (by rw [hv]) rfl
      · rw [if_neg (show ¬ (j - i = (lenS (k - 4) : Int) ∧ allI (fun q => txB h (i + q) == chrS (k - 4) q) (lenS (k - 4)) 0 = true) from z)]
        refine And.intro (fun _ => ?_) (fun c => absurd rfl c)
        refine And.intro ⟨by omega, by omega⟩ ?_
        exact nxt z
  refine hX 10 [2] 0 _ _ _ _ _ _ ?_
  exact loop 18 5 (by omega) (by omega) rfl
theorem kindOf_ok (hi : 0 ≤ i ∧ i ≤ 1500) (hj : 0 ≤ j ∧ j ≤ 1501) : Ok 69 [vR 4, vI i, vI j] (LC N) h (rt (some (vI (kdT h i j))) (LC N) h) := by
  refine ok_body B_X4_kindOf rfl (fun X hX => ?_)
  refine hX 60 [] 0 _ _ _ _ _ _ ?_
  refine Ok_rt isLetter_ok ?_
  by_cases z : isLe (txB h i)
  · rw [if_pos (show 97 ≤ txB h i ∧ txB h i ≤ 122 from z)]
    refine And.intro (fun c => absurd c (by decide)) (fun _ => ?_)
    refine Ok_rt (wordKind_ok hi hj) ?_
    exact rt_mk (by unfold kdT; rw [if_pos z]) rfl
  · rw [if_neg (show ¬ (97 ≤ txB h i ∧ txB h i ≤ 122) from z)]
    refine And.intro (fun _ => ?_) (fun c => absurd rfl c)
    refine Ok_rt isDigit_ok ?_
    by_cases y : isDg (txB h i)
    · rw [if_pos (show 48 ≤ txB h i ∧ txB h i ≤ 57 from y)]
      refine And.intro (fun c => absurd c (by decide)) (fun _ => ?_)
      refine And.intro ⟨by omega, by omega⟩ ?_
      refine And.intro (fun c => ?_) (fun c => ?_)
      · have c : 4 < j - i := c
        exact rt_mk (by unfold kdT; rw [if_neg z, if_pos y, if_neg (by omega)]) rfl
      · have c : j - i ≤ 4 := c
        exact rt_mk (by unfold kdT; rw [if_neg z, if_pos y, if_pos c]) rfl
    · rw [if_neg (show ¬ (48 ≤ txB h i ∧ txB h i ≤ 57) from y)]
      refine And.intro (fun _ => ?_) (fun c => absurd rfl c)
      refine Ok_rt byteAt_ok ?_
      refine And.intro (fun c => ?_) (fun c => ?_)
      · have c : txB h i ≠ 59 := c
        exact rt_mk (by unfold kdT; rw [if_neg z, if_neg y, if_neg c]) rfl
      · have c : txB h i = 59 := c
        exact rt_mk (by unfold kdT; rw [if_neg z, if_neg y, if_pos c]) rfl
theorem setToken_ok (ha : 0 ≤ a ∧ a ≤ 1500) (hb : 0 ≤ b ∧ b ≤ 1501) (hd : k = 2 → (a ≤ b ∧ b ≤ a + 4) ∧ ∀ q, a ≤ q → q < b → 48 ≤ txB h q ∧ txB h q ≤ 57) : Ok 67 [vR 4, vI t, vI a, vI b, vI k] (LC N) h (rt none (LC N) (tokH h t a b k)) := by
  refine ok_body B_X4_setToken rfl (fun X hX => ?_)
  refine hX 80 [] 0 _ _ _ _ _ _ ?_
  refine Ok_rt (put_ok (a := 16) (len := 1501) rfl (by decide)) ?_
  refine Ok_rt (put_ok (a := 17) (len := 1501) rfl (by decide)) ?_
  refine Ok_rt (put_ok (a := 15) (len := 1501) rfl (by decide)) ?_
  refine And.intro (fun c => ?_) (fun c => ?_)
  · have c : k ≠ 2 := c
    refine Ok_rt (packedName_ok ⟨by omega, by omega⟩ ⟨by omega, by omega⟩) ?_
    refine Ok_rt (putL_ok (a := 18) (len := 1501) rfl (by decide)) ?_
    refine rt_mk rfl ?_
    show wrA (tokB h t a b k) 18 1501 t (if 8 < b - a then 0 else pkL (txB (tokB h t a b k)) (b - a).toNat a 0) = _
    unfold tokH
    rw [txB_tok, if_neg c]
  · have c : k = 2 := c
    have d := hd c
    refine Ok_rt (digitsValue_ok ⟨by omega, by omega⟩ d.1 (fun q q0 q1 => ?_)) ?_
    · show 48 ≤ txB (tokB h t a b k) q ∧ txB (tokB h t a b k) q ≤ 57
      rw [txB_tok]
      exact d.2 q q0 q1
    · refine Ok_rt (putL_ok (a := 18) (len := 1501) rfl (by decide)) ?_
      refine rt_mk rfl ?_
      show wrA (tokB h t a b k) 18 1501 t (dgL (txB (tokB h t a b k)) (b - a).toNat a 0) = _
      unfold tokH
      rw [txB_tok, if_pos c]
theorem runEnd_ok (hi : 0 ≤ i ∧ i < h 2 1) (ht : h 2 1 ≤ 1500) : Ok 68 [vR 4, vI i] (LC N) h (rt (some (vI (runE h i))) (LC N) h) := by
  refine ok_body B_X4_runEnd rfl (fun X hX => ?_)
  have loopL : ∀ (m : Nat) (e : Int), h 2 1 - e = (m : Int) → i < e → runE h i = scn (txB h) 97 122 m e → X 23 [vR 4, vI i, vI (h 2 1), vI e] [] (LC N) h 0 0 := by
    intro m
    induction m with
    | zero =>
      intro e he h1 hv
      refine hX 20 [] 23 _ _ _ _ _ _ ?_
      refine And.intro (fun _ => ?_) (fun c => absurd c (by omega))
      exact rt_mk (by rw [hv]; rfl) rfl
    | succ m ih =>
      intro e he h1 hv
      have st : scn (txB h) 97 122 (m + 1) e = if isLe (txB h e) then scn (txB h) 97 122 m (e + 1) else e := rfl
      rw [st] at hv
      refine hX 20 [23] 23 _ _ _ _ _ _ ?_
      refine And.intro (fun c => absurd c (by omega)) (fun _ => ?_)
      refine Ok_rt isLetter_ok ?_
      by_cases z : isLe (txB h e)
      · rw [if_pos z] at hv
        rw [if_pos (show 97 ≤ txB h e ∧ txB h e ≤ 122 from z)]
        refine And.intro (fun c => absurd c (by decide)) (fun _ => ?_)
        refine And.intro ⟨by omega, by omega⟩ ?_
        exact ih (e + 1) (by omega) (by omega) hv
      · rw [if_neg z] at hv
        rw [if_neg (show ¬ (97 ≤ txB h e ∧ txB h e ≤ 122) from z)]
        refine And.intro (fun _ => ?_) (fun c => absurd rfl c)
        exact rt_mk (by rw [hv]) rfl
  have loopD : ∀ (m : Nat) (e : Int), h 2 1 - e = (m : Int) → i < e → runE h i = scn (txB h) 48 57 m e → X 56 [vR 4, vI i, vI (h 2 1), vI e] [] (LC N) h 0 0 := by
    intro m
    induction m with
    | zero =>
      intro e he h1 hv
      refine hX 20 [] 56 _ _ _ _ _ _ ?_
      refine And.intro (fun _ => ?_) (fun c => absurd c (by omega))
      exact rt_mk (by rw [hv]; rfl) rfl
    | succ m ih =>
      intro e he h1 hv
      have st : scn (txB h) 48 57 (m + 1) e = if isDg (txB h e) then scn (txB h) 48 57 m (e + 1) else e := rfl
      rw [st] at hv
      refine hX 20 [56] 56 _ _ _ _ _ _ ?_
      refine And.intro (fun c => absurd c (by omega)) (fun _ => ?_)
      refine Ok_rt isDigit_ok ?_
      by_cases z : isDg (txB h e)
      · rw [if_pos z] at hv
        rw [if_pos (show 48 ≤ txB h e ∧ txB h e ≤ 57 from z)]
        refine And.intro (fun c => absurd c (by decide)) (fun _ => ?_)
        refine And.intro ⟨by omega, by omega⟩ ?_
        exact ih (e + 1) (by omega) (by omega) hv
      · rw [if_neg z] at hv
        rw [if_neg (show ¬ (48 ≤ txB h e ∧ txB h e ≤ 57) from z)]
        refine And.intro (fun _ => ?_) (fun c => absurd rfl c)
        exact rt_mk (by rw [hv]) rfl
  refine hX 40 [23, 56] 0 _ _ _ _ _ _ ?_
  refine And.intro ⟨by omega, by omega⟩ ?_
  refine Ok_rt isLetter_ok ?_
  by_cases z : isLe (txB h i)
  · rw [if_pos (show 97 ≤ txB h i ∧ txB h i ≤ 122 from z)]
    refine And.intro (fun c => absurd c (by decide)) (fun _ => ?_)
    exact loopL (h 2 1 - (i + 1)).toNat (i + 1) (by omega) (by omega) (by unfold runE; rw [if_pos z])
  · rw [if_neg (show ¬ (97 ≤ txB h i ∧ txB h i ≤ 122) from z)]
    refine And.intro (fun _ => ?_) (fun c => absurd rfl c)
    refine Ok_rt isDigit_ok ?_
    by_cases y : isDg (txB h i)
    · rw [if_pos (show 48 ≤ txB h i ∧ txB h i ≤ 57 from y)]
      refine And.intro (fun c => absurd c (by decide)) (fun _ => ?_)
      exact loopD (h 2 1 - (i + 1)).toNat (i + 1) (by omega) (by omega) (by unfold runE; rw [if_neg z, if_pos y])
    · rw [if_neg (show ¬ (48 ≤ txB h i ∧ txB h i ≤ 57) from y)]
      refine And.intro (fun _ => ?_) (fun c => absurd rfl c)
      exact rt_mk (by unfold runE; rw [if_neg z, if_neg y]) rfl
end READER2
