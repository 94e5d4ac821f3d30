/-! ===== the model: isWord, passes, semicolon, figure ===== -/
theorem allI_iff {f : Int → Bool} : ∀ (m : Nat) (i : Int), allI f m i = true ↔ ∀ q, i ≤ q → q < i + (m : Int) → f q = true
  | 0, i => ⟨fun _ q h0 h1 => absurd h1 (by omega), fun _ => rfl⟩
  | m + 1, i => by
    unfold allI
    rw [Bool.and_eq_true_iff, allI_iff m (i + 1)]
    constructor
    · intro h q h0 h1
      by_cases z : q = i
      · rw [z]; exact h.1
      · exact h.2 q (by omega) (by omega)
    · intro h
      exact ⟨h i (by omega) (by omega), fun q h0 h1 => h q (by omega) (by omega)⟩
def wdEq (a b : Nat) : Bool := lenS a == lenS b && (List.range 7).all (fun q => !(decide (q < lenS a)) || chrS a (q : Nat) == chrS b (q : Nat))
theorem words_ne : ((List.range 19).all (fun a => (List.range 19).all (fun b => a == 0 || b == 0 || a == b || !(wdEq a b)))) = true := by decide +kernel
theorem wdEq_one {a b : Nat} (ha : 1 ≤ a ∧ a < 19) (hb : 1 ≤ b ∧ b < 19) (h : wdEq a b = true) : a = b := by
  have A := List.all_eq_true.mp words_ne a (List.mem_range.mpr ha.2)
  have B := List.all_eq_true.mp A b (List.mem_range.mpr hb.2)
  rw [h] at B
  simp at B
  omega
theorem words_len : ∀ a, a < 19 → a = 0 ∨ (1 ≤ lenS a ∧ lenS a ≤ 7) := by decide +kernel
theorem wdIs_ch {h : HP} {i j : Int} {s : Nat} (H : wdIs h i j s) (q : Nat) (hq : q < lenS s) : txB h (i + (q : Int)) = chrS s (q : Nat) := by
  have a := (allI_iff (f := fun q => txB h (i + q) == chrS s q) (lenS s) 0).mp H.2 (q : Int) (by omega) (by omega)
  exact beq_iff_eq.mp a
theorem wdIs_one {h : HP} {i j : Int} {a b : Nat} (ha : 1 ≤ a ∧ a < 19) (hb : 1 ≤ b ∧ b < 19) (A : wdIs h i j a) (B : wdIs h i j b) : a = b := by
  have e : lenS a = lenS b := by have := A.1; have := B.1; omega
  refine wdEq_one ha hb ?_
  unfold wdEq
  rw [e, beq_self_eq_true, Bool.true_and, List.all_eq_true]
  intro q _
  by_cases y : q < lenS b
  · rw [← wdIs_ch A q (by omega), ← wdIs_ch B q y, beq_self_eq_true, Bool.or_true]
  · rw [decide_eq_false y]
    rfl
theorem wdK_cases {h : HP} {i j : Int} : ∀ (m k : Nat), (wdK h i j m k = 4 ∧ ∀ q, k ≤ q → q < k + m → ¬ wdIs h i j (q - 4)) ∨ ∃ q : Nat, k ≤ q ∧ q < k + m ∧ wdK h i j m k = (q : Int) ∧ wdIs h i j (q - 4)
  | 0, k => Or.inl ⟨rfl, fun q h0 h1 => absurd h1 (by omega)⟩
  | m + 1, k => by
    unfold wdK
    by_cases z : wdIs h i j (k - 4)
    · rw [if_pos z]
      exact Or.inr ⟨k, Nat.le_refl _, by omega, rfl, z⟩
    · rw [if_neg z]
      rcases wdK_cases (h := h) (i := i) (j := j) m (k + 1) with ⟨a, b⟩ | ⟨q, a, b, c, d⟩
      · refine Or.inl ⟨a, fun q h0 h1 => ?_⟩
        by_cases y : q = k
        · rw [y]; exact z
        · exact b q (by omega) (by omega)
      · exact Or.inr ⟨q, by omega, by omega, c, d⟩
theorem wdK_is {h : HP} {i j : Int} {sid : Nat} (hs : 1 ≤ sid ∧ sid ≤ 18) : wdK h i j 18 5 = (sid : Int) + 4 ↔ wdIs h i j sid := by
  rcases wdK_cases (h := h) (i := i) (j := j) 18 5 with ⟨a, b⟩ | ⟨q, a, b, c, d⟩
  · rw [a]
    refine ⟨fun y => absurd y (by omega), fun y => absurd ?_ (b (sid + 4) (by omega) (by omega))⟩
    rw [show sid + 4 - 4 = sid by omega]
    exact y
  · rw [c]
    constructor
    · intro y
      have e : q - 4 = sid := by omega
      rw [← e]
      exact d
    · intro y
      have e := wdIs_one (a := q - 4) (b := sid) ⟨by omega, by omega⟩ ⟨by omega, by omega⟩ d y
      omega
theorem kdT_let {h : HP} {i j : Int} (z : 4 ≤ kdT h i j) : isLe (txB h i) ∧ kdT h i j = wdK h i j 18 5 := by
  unfold kdT at *
  by_cases y : isLe (txB h i)
  · rw [if_pos y]
    exact ⟨y, rfl⟩
  · rw [if_neg y] at z
    split at z
    · split at z
      · omega
      · omega
    · split at z
      · omega
      · omega
theorem srt_1 {k : Int} (hk : k = 0 ∨ k = 1 ∨ k = 2 ∨ k = 3 ∨ 4 ≤ k) : srt k = 1 ↔ 4 ≤ k := by
  unfold srt
  rcases hk with rfl | rfl | rfl | rfl | z
  · exact ⟨fun y => absurd y (by decide), fun y => absurd y (by decide)⟩
  · exact ⟨fun y => absurd y (by decide), fun y => absurd y (by decide)⟩
  · exact ⟨fun y => absurd y (by decide), fun y => absurd y (by decide)⟩
  · exact ⟨fun y => absurd y (by decide), fun y => absurd y (by decide)⟩
  · rw [if_neg (by omega), if_neg (by omega), if_neg (by omega), if_neg (by omega)]
    exact ⟨fun _ => z, fun _ => rfl⟩
theorem srt_2 {k : Int} : srt k = 2 ↔ k = 2 := by
  unfold srt
  constructor
  · intro h
    split at h
    · omega
    · split at h
      · assumption
      · split at h
        · omega
        · split at h <;> omega
  · rintro rfl
    rfl
theorem srt_3 {k : Int} : srt k = 3 ↔ k = 3 := by
  unfold srt
  constructor
  · intro h
    split at h
    · omega
    · split at h
      · omega
      · split at h
        · assumption
        · split at h <;> omega
  · rintro rfl
    rfl
theorem srt_0 {k : Int} : srt k = 0 ↔ k = 1 := by
  unfold srt
  constructor
  · intro h
    split at h
    · assumption
    · split at h
      · omega
      · split at h
        · omega
        · split at h <;> omega
  · rintro rfl
    rfl
theorem kdT_rng {h : HP} {i j : Int} : kdT h i j = 0 ∨ kdT h i j = 1 ∨ kdT h i j = 2 ∨ kdT h i j = 3 ∨ 4 ≤ kdT h i j := by
  unfold kdT
  have := wdK_ge (h := h) (i := i) (j := j) 18 5 (by decide)
  split
  · omega
  · split
    · split
      · omega
      · omega
    · split
      · omega
      · omega
theorem OKR_kd {T : Nat} {v g : HP} (H : OKR T v g) (R : RT T v) : v 4 9 = 0 ∨ v 4 9 = 1 ∨ v 4 9 = 2 ∨ v 4 9 = 3 ∨ 4 ≤ v 4 9 := by
  rcases OKR_tok H R with y | y
  · exact Or.inr (Or.inl y.1)
  · rw [y.2.2.2.2.1]
    exact kdT_rng
/-- where a token stands -/
theorem OKR_at {T : Nat} {v g : HP} (H : OKR T v g) (R : RT T v) : 0 ≤ v 4 8 ∧ v 4 8 ≤ enH v ∧ enH v ≤ v 2 1 ∧ v 2 1 ≤ 1500 := by
  have x := H.2.2.2.2.1
  rcases OKR_tok H R with y | y
  · omega
  · obtain ⟨-, ⟨a, b⟩, -, c, -⟩ := y
    have rb := runE_bd (h := v) (i := v 4 8) b
    omega
section MWORD
variable {M : List CT} {T : Nat} {v g : HP} {k c x a b : Int} {sid : Nat}
theorem m_isWord (H : SR T v g) (hs : 1 ≤ sid ∧ sid ≤ 18) : Ok 186 [vR 50, vR (1000 + sid)] (LL M) g (fun o Λ' g' => Λ' = LL M ∧ g' = g ∧ ∃ x, o = .inl (some (vI x)) ∧ bI x (v 4 9 = (sid : Int) + 4)) := by
  have hsn : sid < nStr := Nat.lt_of_le_of_lt hs.2 (by decide)
  have hlen := words_len sid (by omega)
  refine ok_body B_X9_isWord rfl (fun X hX => ?_)
  have no : ∀ (j2 : PV), v 4 9 ≠ (sid : Int) + 4 → X 31 [vR 50, vR (1000 + sid), j2] [] (LL M) g 0 0 := by
    intro j2 hn
    refine hX 10 [] 31 _ _ _ _ _ _ ?_
    exact And.intro ⟨by decide, by decide⟩ ⟨rfl, rfl, 0, rfl, Or.inr ⟨hn, rfl⟩⟩
  refine hX 30 [7, 31] 0 _ _ _ _ _ _ ?_
  refine Ok_rt (m_isWrong H) ?_
  by_cases z : v 4 10 = 0
  · rw [if_pos z]
    refine And.intro (fun y => absurd rfl y) (fun _ => ?_)
    have O := SR_ok H z
    have at0 := OKR_at O H.1.2
    have kd := OKR_kd O H.1.2
    have e21 := O.2.2.2.1.2.2.1
    have e20 := O.2.2.2.1.1
    have e19 := O.2.2.2.1.2.1
    refine hX 30 [31, 33] 7 _ _ _ _ _ _ ?_
    refine And.intro (fun c => ?_) (fun c => ?_)
    · have c : g 50 21 ≠ 1 := c
      refine no _ (fun y => c ?_)
      rw [e21]
      exact (srt_1 kd).mpr (by omega)
    · have c : g 50 21 = 1 := c
      rw [e21] at c
      have k4 := (srt_1 kd).mp c
      have K := (OKR_in O H.1.2 (by omega)).2
      have ek := K.2.2.2.1
      have kl := kdT_let (h := v) (i := v 4 8) (j := enH v) (by omega)
      have key : v 4 9 = (sid : Int) + 4 ↔ wdIs v (v 4 8) (enH v) sid := by
        rw [ek, kl.2]
        exact wdK_is hs
      refine And.intro (show inR (g 50 19 - g 50 20) from ⟨by omega, by omega⟩) ?_
      refine And.intro ⟨by omega, by omega⟩ (Ok_rt (strlen_ok hsn) ?_)
      refine And.intro (fun d => ?_) (fun d => ?_)
      · have d : g 50 19 - g 50 20 = ((lenS sid : Nat) : Int) := d
        have loop : ∀ (m q : Nat), q + m = lenS sid → (∀ r, r < q → txB v (v 4 8 + (r : Int)) = chrS sid (r : Nat)) → X 35 [vR 50, vR (1000 + sid), vI (q : Int)] [] (LL M) g 0 0 := by
          intro m
          induction m with
          | zero =>
            intro q hq hr
            refine hX 30 [69] 35 _ _ _ _ _ _ ?_
            refine And.intro ⟨by omega, by omega⟩ (Ok_rt (strlen_ok hsn) ?_)
            refine And.intro (fun _ => ?_) (fun y => absurd y (by omega))
            refine hX 10 [] 69 _ _ _ _ _ _ ?_
            refine And.intro ⟨by decide, by decide⟩ ⟨rfl, rfl, 1, rfl, Or.inl ⟨key.mpr ⟨by omega, ?_⟩, rfl⟩⟩
            rw [allI_iff]
            intro r r0 r1
            rw [beq_iff_eq]
            have := hr r.toNat (by omega)
            rw [show ((r.toNat : Nat) : Int) = r by omega] at this
            exact this
          | succ m ih =>
            intro q hq hr
            refine hX 30 [35, 43] 35 _ _ _ _ _ _ ?_
            refine And.intro ⟨by omega, by omega⟩ (Ok_rt (strlen_ok hsn) ?_)
            refine And.intro (fun y => absurd y (by omega)) (fun _ => ?_)
            refine hX 30 [35] 43 _ _ _ _ _ _ ?_
            refine And.intro (show inR (g 50 20 + (q : Int)) from ⟨by omega, by omega⟩) ?_
            refine Ok_rt (m_bt O.2.2.2.2 (show 0 ≤ g 50 20 + (q : Int) by omega)) ?_
            rw [show btV v (g 50 20 + (q : Int)) = txB v (v 4 8 + (q : Int)) by rw [← e20]; exact if_pos (by omega)]
            refine And.intro ⟨by omega, by omega⟩ (Ok_rt (charAt_ok hsn (by omega) (by omega)) ?_)
            refine And.intro (fun c => ?_) (fun c => ?_)
            · have c : txB v (v 4 8 + (q : Int)) = chrS sid (q : Int) := c
              refine And.intro ⟨by omega, by omega⟩ ?_
              refine ih (q + 1) (by omega) (fun r hr2 => ?_)
              by_cases y : r = q
              · rw [y]; exact c
              · exact hr r (by omega)
            · have c : txB v (v 4 8 + (q : Int)) ≠ chrS sid (q : Int) := c
              exact And.intro ⟨by decide, by decide⟩ ⟨rfl, rfl, 0, rfl, Or.inr ⟨fun y => c (wdIs_ch (key.mp y) q (by omega)), rfl⟩⟩
        refine hX 30 [35] 33 _ _ _ _ _ _ ?_
        show X 35 [_, _, vI 0] _ _ _ _ _
        exact loop (lenS sid) 0 (by omega) (fun r hr => absurd hr (Nat.not_lt_zero _))
      · have d : g 50 19 - g 50 20 ≠ ((lenS sid : Nat) : Int) := d
        exact no _ (fun y => d (by rw [e19, e20]; exact (key.mp y).1))
  · rw [if_neg z]
    refine And.intro (fun _ => ?_) (fun y => absurd y (by decide))
    exact no _ (by rw [SR_k1 H z]; omega)
theorem m_passes (H : SR T v g) (hk : k ≠ 1) (hx : v 4 10 = 0 → (x ≠ 0 ↔ v 4 9 = k)) : Ok 187 [vR 50, vI x] (LL M) g (fun o Λ' g' => o = .inl none ∧ Λ' = LL M ∧ FrT g g' ∧ SR T (ptH v k) g') := by
  refine ok_body B_X9_passes rfl (fun X hX => ?_)
  refine hX 30 [9] 0 _ _ _ _ _ _ ?_
  refine And.intro (fun c => ?_) (fun c => ?_)
  · have c : x ≠ 0 := c
    by_cases z : v 4 10 = 0
    · have ek := (hx z).mp c
      have O := SR_ok H z
      have at0 := OKR_at O H.1.2
      have ep : ptH v k = passH v := by unfold ptH; rw [if_pos ek, fail_0]
      refine hX 30 [] 9 _ _ _ _ _ _ ?_
      refine Ok_rt (m_isWrong H) ?_
      rw [if_pos z]
      refine And.intro (fun y => absurd rfl y) (fun _ => ?_)
      refine Ok_mono (fun o' Λ' h2 hp => ?_) (m_token O.2.2.2.2 (by rw [O.2.2.2.1.2.1]; omega) H.1.1)
      obtain ⟨e1, e2, F, P⟩ := hp
      subst e1
      subst e2
      refine ⟨rfl, rfl, FrT_K F, ⟨P.2.2.2, RT_pt H.1.2 hk⟩, ?_⟩
      rw [ep]
      exact Or.inr (OKR_pass O H.1.2 (by rw [ek]; exact hk) F P)
    · refine hX 30 [] 9 _ _ _ _ _ _ ?_
      refine Ok_rt (m_isWrong H) ?_
      rw [if_neg z]
      refine And.intro (fun _ => ?_) (fun y => absurd y (by decide))
      refine ⟨rfl, rfl, FrT_rf g, ?_⟩
      rw [pt_er z]
      exact H
  · have c : x = 0 := c
    refine Ok_rt (m_fails H) ?_
    have H1 := SR_fails (c := 1) (x := 1) H (by decide) (by decide)
    have z1 : failH v 1 1 4 10 ≠ 0 := fun y => absurd (fail_10 (by decide) y).2 (by decide)
    have ep : ptH v k = failH v 1 1 := by
      by_cases z : v 4 10 = 0
      · unfold ptH
        rw [if_neg (fun y => absurd c ((hx z).mpr y)), pass_er z1]
      · rw [pt_er z, fail_er z]
    refine hX 30 [] 9 _ _ _ _ _ _ ?_
    refine Ok_rt (m_isWrong H1) ?_
    rw [if_neg z1]
    refine And.intro (fun _ => ?_) (fun y => absurd y (by decide))
    refine ⟨rfl, rfl, flG_fr, ?_⟩
    rw [ep]
    exact H1
theorem m_semicolon (H : SR T v g) : Ok 188 [vR 50] (LL M) g (fun o Λ' g' => o = .inl none ∧ Λ' = LL M ∧ FrT g g' ∧ SR T (ptH v 3) g') := by
  refine ok_body B_X9_semicolon rfl (fun X hX => ?_)
  have e21 : v 4 10 = 0 → g 50 21 = srt (v 4 9) := fun z => (SR_ok H z).2.2.2.1.2.2.1
  refine hX 30 [14] 0 _ _ _ _ _ _ ?_
  refine And.intro (fun c => ?_) (fun c => ?_)
  · have c : g 50 21 ≠ 3 := c
    refine hX 30 [] 14 _ _ _ _ _ _ ?_
    refine Ok_mono (fun o' Λ' h2 hp => ?_) (m_passes (k := 3) (x := 0) H (by decide) (fun z => ⟨fun y => absurd rfl y, fun y => absurd (by rw [e21 z]; exact srt_3.mpr y) c⟩))
    obtain ⟨e1, e2, F, P⟩ := hp
    subst e1
    subst e2
    exact ⟨rfl, rfl, F, P⟩
  · have c : g 50 21 = 3 := c
    refine hX 30 [] 14 _ _ _ _ _ _ ?_
    refine Ok_mono (fun o' Λ' h2 hp => ?_) (m_passes (k := 3) (x := 1) H (by decide) (fun z => ⟨fun _ => srt_3.mp (by rw [← e21 z]; exact c), fun _ => by decide⟩))
    obtain ⟨e1, e2, F, P⟩ := hp
    subst e1
    subst e2
    exact ⟨rfl, rfl, F, P⟩
theorem m_figure (H : SR T v g) (ha : 0 ≤ a ∧ a ≤ 9999) : Ok 189 [vR 50, vI a, vI b] (LL M) g (fun o Λ' g' => Λ' = LL M ∧ FrT g g' ∧ SR T (numH v a b) g' ∧ ∃ r, o = .inl (some (vI r)) ∧ (0 ≤ r ∧ r ≤ 9999) ∧ (numH v a b 4 10 = 0 → r = l2iI (tvH v) ∧ a ≤ r ∧ r ≤ b)) := by
  refine ok_body B_X9_figure rfl (fun X hX => ?_)
  have n22 := H.1.1
  /- behind the checks, with an error -/
  have bad : ∀ (w g1 : HP) (j3 : PV), SR T w g1 → FrT g g1 → w 4 10 ≠ 0 → numH v a b = w → X 45 [vR 50, vI a, vI b, j3] [] (LL M) g1 0 0 := by
    intro w g1 j3 H1 F1 z1 ew
    have b22 := H1.1.1
    refine hX 30 [50] 45 _ _ _ _ _ _ ?_
    show X 50 [_, _, _, vI (g1 50 22)] _ _ _ _ _
    refine hX 30 [] 50 _ _ _ _ _ _ ?_
    refine Ok_rt (m_isWrong H1) ?_
    rw [if_neg z1]
    refine And.intro (fun _ => ?_) (fun y => absurd y (by decide))
    refine ⟨rfl, F1, ?_, _, rfl, b22, fun z => ?_⟩
    · rw [ew]; exact H1
    · rw [ew] at z
      exact absurd z z1
  refine hX 30 [9] 0 _ _ _ _ _ _ ?_
  refine Ok_rt (m_isWrong H) ?_
  by_cases z : v 4 10 = 0
  · rw [if_pos z]
    have O := SR_ok H z
    have at0 := OKR_at O H.1.2
    have e21 := O.2.2.2.1.2.2.1
    refine And.intro (fun _ => ?_) (fun y => absurd rfl y)
    refine hX 30 [25, 45] 9 _ _ _ _ _ _ ?_
    refine And.intro (fun c => ?_) (fun c => ?_)
    · have c : g 50 21 = 2 := c
      have k2 : v 4 9 = 2 := srt_2.mp (by rw [← e21]; exact c)
      have en := O.2.2.2.1.2.2.2 k2
      have ep : numH v a b = passH (failH v (if l2iI (tvH v) < a ∨ b < l2iI (tvH v) then 1 else 0) 2) := by
        unfold numH
        rw [if_pos k2, fail_0]
      refine hX 30 [45] 25 _ _ _ _ _ _ ?_
      by_cases y : a ≤ g 50 22 ∧ g 50 22 ≤ b
      · refine Ok_rt (isIn_t y) ?_
        refine And.intro (fun _ => ?_) (fun c2 => absurd c2 (by decide))
        have ep2 : numH v a b = passH v := by rw [ep, if_neg (by omega), fail_0]
        refine hX 30 [50] 45 _ _ _ _ _ _ ?_
        show X 50 [_, _, _, vI (g 50 22)] _ _ _ _ _
        refine hX 30 [] 50 _ _ _ _ _ _ ?_
        refine Ok_rt (m_isWrong H) ?_
        rw [if_pos z]
        refine And.intro (fun c2 => absurd rfl c2) (fun _ => ?_)
        refine Ok_mono (fun o' Λ' h2 hp => ?_) (m_token O.2.2.2.2 (by rw [O.2.2.2.1.2.1]; omega) H.1.1)
        obtain ⟨e1, e2, F, P⟩ := hp
        subst e1
        subst e2
        refine ⟨rfl, FrT_K F, ⟨⟨P.2.2.2, RT_num H.1.2⟩, ?_⟩, _, rfl, n22, fun _ => ⟨en, y⟩⟩
        rw [ep2]
        exact Or.inr (OKR_pass O H.1.2 (by rw [k2]; decide) F P)
      · refine Ok_rt (isIn_f y) ?_
        refine And.intro (fun c2 => absurd rfl c2) (fun _ => ?_)
        refine Ok_rt (m_fails H) ?_
        have H1 := SR_fails (c := 2) (x := 1) H (by decide) (by decide)
        have z1 : failH v 1 2 4 10 ≠ 0 := fun w => absurd (fail_10 (by decide) w).2 (by decide)
        exact bad _ _ _ H1 flG_fr z1 (by rw [ep, if_pos (by omega), pass_er z1])
    · have c : g 50 21 ≠ 2 := c
      have k2 : v 4 9 ≠ 2 := fun y => c (by rw [e21]; exact srt_2.mpr y)
      refine Ok_rt (m_fails H) ?_
      have H1 := SR_fails (c := 1) (x := 1) H (by decide) (by decide)
      have z1 : failH v 1 1 4 10 ≠ 0 := fun w => absurd (fail_10 (by decide) w).2 (by decide)
      refine bad _ _ _ H1 flG_fr z1 ?_
      unfold numH
      rw [if_neg k2, fail_er z1, pass_er z1]
  · rw [if_neg z]
    refine And.intro (fun y => absurd y (by decide)) (fun _ => ?_)
    refine ⟨rfl, FrT_rf g, ?_, _, rfl, ha, fun y => ?_⟩
    · rw [num_er z]; exact H
    · rw [num_er z] at y
      exact absurd y z
end MWORD
