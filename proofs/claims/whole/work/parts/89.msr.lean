/-! ===== the model reads as the class does: the relation; fails, isWord, passes, figure =====
 v: a heap of the class alone (its reader behind so many steps), g: the heap of the run -/
def TKS (T : Nat) (v : HP) : Prop := TKF v v (v 2 1) 0 T 0
def ER (v g : HP) : Prop := v 4 10 ≠ 0 ∧ g 50 23 = v 4 10 ∧ g 50 24 = v 4 11
def OKR (T : Nat) (v g : HP) : Prop :=
  (v 4 10 = 0 ∧ g 50 23 = 0) ∧ (g 50 24 = v 4 11 ∧ TKS T v) ∧ (0 ≤ v 4 7 ∧ v 4 8 = rd (v 16) 1501 (v 4 7)) ∧ (g 50 20 = v 4 8 ∧ g 50 19 = enH v ∧ g 50 21 = srt (v 4 9) ∧ (v 4 9 = 2 → g 50 22 = l2iI (tvH v))) ∧ TxR v g
def SR (T : Nat) (v g : HP) : Prop := ((0 ≤ g 50 22 ∧ g 50 22 ≤ 9999) ∧ RT T v) ∧ (ER v g ∨ OKR T v g)
/-- nothing but what the reading is at has changed -/
def FrT (g g' : HP) : Prop := (∀ c, c ≠ 50 → g' c = g c) ∧ ∀ q, (q < 19 ∨ 24 < q) → g' 50 q = g 50 q
theorem FrT_rf (g : HP) : FrT g g := ⟨fun _ _ => rfl, fun _ _ => rfl⟩
theorem FrT_tr {a b c : HP} (H : FrT a b) (G : FrT b c) : FrT a c := ⟨fun q h => (G.1 q h).trans (H.1 q h), fun q h => (G.2 q h).trans (H.2 q h)⟩
theorem FrT_K {g g' : HP} (H : FrK g g') : FrT g g' := ⟨H.1, fun q h => H.2 q (by omega)⟩
theorem SR_ne {T : Nat} {v g : HP} (H : SR T v g) (z : v 4 10 ≠ 0) : ER v g := by
  rcases H.2 with e | e
  · exact e
  · exact absurd e.1.1 z
theorem SR_ok {T : Nat} {v g : HP} (H : SR T v g) (z : v 4 10 = 0) : OKR T v g := by
  rcases H.2 with e | e
  · exact absurd z e.1
  · exact e
/-- both know alike that something is wrong -/
theorem SR_23 {T : Nat} {v g : HP} (H : SR T v g) : g 50 23 = v 4 10 := by
  rcases H.2 with e | e
  · exact e.2.1
  · rw [e.1.1, e.1.2]
theorem SR_24 {T : Nat} {v g : HP} (H : SR T v g) : g 50 24 = v 4 11 := by
  rcases H.2 with e | e
  · exact e.2.2
  · exact e.2.1.1
theorem SR_k1 {T : Nat} {v g : HP} (H : SR T v g) (z : v 4 10 ≠ 0) : v 4 9 = -1 := H.1.2.2.2.2.2.2 z
theorem SR_wr {T : Nat} {v g g' : HP} (H : SR T v g) (e61 : g' 61 = g 61) (e : ∀ q, 18 ≤ q → q ≤ 24 → g' 50 q = g 50 q) : SR T v g' := by
  unfold SR ER OKR TxR at *
  rw [e 18 (by decide) (by decide), e 19 (by decide) (by decide), e 20 (by decide) (by decide), e 21 (by decide) (by decide), e 22 (by decide) (by decide), e 23 (by decide) (by decide), e 24 (by decide) (by decide), e61]
  exact H
theorem TxR_cg {v w g g' : HP} (H : TxR v g) (e2 : w 2 = v 2) (e3 : w 3 = v 3) (e18 : g' 50 18 = g 50 18) (e61 : g' 61 = g 61) : TxR w g' := by
  unfold TxR at *
  rw [txB_cg e2 e3, e2, e18, e61]
  exact H
theorem TKS_cg {T : Nat} {v w : HP} (H : TKS T v) (e2 : w 2 = v 2) (e3 : w 3 = v 3) (e : ∀ c, 15 ≤ c → c ≤ 18 → w c = v c) : TKS T w := by
  obtain ⟨-, a, b, c, d⟩ := H
  have et := txB_cg e2 e3
  refine ⟨fun _ _ _ _ _ => rfl, ?_, fun q q0 q1 => ?_, fun q q0 q1 => ?_, ?_⟩
  · rw [e 16 (by decide) (by decide), et, e2]; exact a
  · rw [e 16 (by decide) (by decide), e 17 (by decide) (by decide), et, e2]; exact b q q0 q1
  · rw [e 15 (by decide) (by decide), e 16 (by decide) (by decide), e 17 (by decide) (by decide), e 18 (by decide) (by decide)]
    exact TKP_cg e2.symm e3.symm (c q q0 q1)
  · rw [e 15 (by decide) (by decide), e 16 (by decide) (by decide), e 17 (by decide) (by decide), e2]; exact d
/-- the class has told something of what it reads: neither text nor tokens nor place have changed -/
theorem SR_cls {T : Nat} {v w g : HP} (H : SR T v g) (e2 : w 2 = v 2) (e3 : w 3 = v 3) (e4 : w 4 = v 4) (e : ∀ c, 15 ≤ c → c ≤ 18 → w c = v c) : SR T w g := by
  refine ⟨⟨H.1.1, RT_cg H.1.2 e4 e⟩, ?_⟩
  rcases H.2 with x | x
  · unfold ER at *; rw [e4]; exact Or.inl x
  · obtain ⟨a, ⟨b0, b⟩, c, d, f⟩ := x
    refine Or.inr ⟨by rw [e4]; exact a, ⟨by rw [e4]; exact b0, TKS_cg b e2 e3 e⟩, by rw [e4, e 16 (by decide) (by decide)]; exact c, ?_, TxR_cg f e2 e3 rfl rfl⟩
    unfold enH tvH rdA at *
    rw [e4, e 17 (by decide) (by decide), e 18 (by decide) (by decide)]
    exact d
/-- the token that both stand at -/
theorem OKR_tok {T : Nat} {v g : HP} (H : OKR T v g) (R : RT T v) : (v 4 9 = 1 ∧ v 4 7 = (T : Int) ∧ v 4 8 = v 2 1 ∧ enH v = v 2 1) ∨ (v 4 7 < (T : Int) ∧ TKP v (v 4 8) (enH v) (v 4 9) (tvH v)) := by
  obtain ⟨⟨a, -⟩, ⟨-, b⟩, ⟨c0, c1⟩, -, -⟩ := H
  have k := R.1.2.2 a
  have l := R.1.1.2
  obtain ⟨n, hn⟩ : ∃ n : Nat, v 4 7 = (n : Int) := ⟨(v 4 7).toNat, by omega⟩
  have eE : enH v = rd (v 17) 1501 (n : Int) := by unfold enH; rw [hn]; rfl
  have eV : tvH v = rd (v 18) 1501 (n : Int) := by unfold tvH; rw [hn]; rfl
  obtain ⟨-, -, -, t4, t5, t6, t7⟩ := b
  rw [c1, k, eE, eV, hn]
  by_cases z : n = T
  · subst z
    exact Or.inl ⟨t7, rfl, t5, t6⟩
  · exact Or.inr ⟨by omega, t4 n (Nat.zero_le _) (by omega)⟩
theorem kdT_ne1 {h : HP} {i j : Int} : kdT h i j ≠ 1 := by
  unfold kdT
  have := wdK_ge (h := h) (i := i) (j := j) 18 5 (by decide)
  split
  · omega
  · split
    · split <;> decide
    · split <;> decide
theorem OKR_in {T : Nat} {v g : HP} (H : OKR T v g) (R : RT T v) (z : v 4 9 ≠ 1) : v 4 7 < (T : Int) ∧ TKP v (v 4 8) (enH v) (v 4 9) (tvH v) := by
  rcases OKR_tok H R with y | y
  · exact absurd y.1 z
  · exact y
theorem TKP_num {v : HP} {s e w : Int} (H : TKP v s e 2 w) : l2iI w = w ∧ (0 ≤ w ∧ w ≤ 9999) ∧ w = tvW v s e 2 := by
  obtain ⟨⟨a, b⟩, -, c, d, f⟩ := H
  have kd := kd_dig (h := v) (i := s) b (by rw [← c]; exact d.symm)
  rw [← c] at kd
  have db := dgL_bd (f := txB v) (e - s).toNat s 0 (by omega) (by decide) (by
    have cc : (e - s).toNat = 0 ∨ (e - s).toNat = 1 ∨ (e - s).toNat = 2 ∨ (e - s).toNat = 3 ∨ (e - s).toNat = 4 := by omega
    rcases cc with cc | cc | cc | cc | cc <;> rw [cc] <;> decide) (fun q q0 q1 => kd.2 q q0 (by omega))
  have fw : w = dgL (txB v) (e - s).toNat s 0 := by rw [f]; unfold tvW; rw [if_pos rfl]
  rw [← fw] at db
  exact ⟨l2i_lo (p := 0) (low := w) ⟨by omega, by omega⟩ (by omega) ⟨by omega, by omega⟩, db, f⟩
/-- the next token of both -/
theorem OKR_pass {T : Nat} {v g g' : HP} (H : OKR T v g) (R : RT T v) (k : v 4 9 ≠ 1) (F : FrK g g') (P : TokP v (g 50 19) g') : OKR T (passH v) g' := by
  have ti := (OKR_in H R k).1
  obtain ⟨⟨a, a2⟩, ⟨f24, b⟩, ⟨c0, c1⟩, ⟨d0, d1, d2, d3⟩, x⟩ := H
  obtain ⟨n, hn⟩ : ∃ n : Nat, v 4 7 = (n : Int) := ⟨(v 4 7).toNat, by omega⟩
  have b' := b
  obtain ⟨-, -, t3, t4, t5, t6, t7⟩ := b'
  have eE : enH v = rd (v 17) 1501 (n : Int) := by unfold enH; rw [hn]; rfl
  have t3n := t3 n (Nat.zero_le _) (by omega)
  have et : tkA v (g 50 19) = rd (v 16) 1501 ((n : Int) + 1) := by rw [t3n, d1, eE]
  have p7 : passH v 4 7 = (n : Int) + 1 := by rw [passH_7, if_pos a, hn]
  have p8 : passH v 4 8 = rd (v 16) 1501 ((n : Int) + 1) := by rw [passH_8, if_pos a, hn]
  have p9 : passH v 4 9 = rd (v 15) 1501 ((n : Int) + 1) := by
    unfold passH
    rw [if_pos a, up_same, hn]
    rfl
  have pE : enH (passH v) = rd (v 17) 1501 ((n : Int) + 1) := by
    unfold enH
    rw [p7, rdA_cg (passH_cell (by decide))]
    rfl
  have pV : tvH (passH v) = rd (v 18) 1501 ((n : Int) + 1) := by
    unfold tvH
    rw [p7, rdA_cg (passH_cell (by decide))]
    rfl
  obtain ⟨q1, q2, q3, q4⟩ := P
  rw [et] at q1 q2 q3
  refine ⟨⟨(passH_10 (by decide) (by decide) (by decide)).trans a, by rw [F.2 23 (by decide)]; exact a2⟩, ⟨by rw [F.2 24 (by decide), passH_10 (by decide) (by decide) (by decide)]; exact f24, TKS_cg b (passH_cell (by decide)) (passH_cell (by decide)) (fun c h0 h1 => passH_cell (by omega))⟩, ⟨by rw [p7]; omega, by rw [p8, p7, passH_cell (by decide)]⟩, ?_, TxR_cg x (passH_cell (by decide)) (passH_cell (by decide)) (F.2 18 (by decide)) (F.1 61 (by decide))⟩
  rw [p8, pE, p9, pV]
  by_cases z : n + 1 = T
  · have zi : (n : Int) + 1 = (T : Int) := by omega
    rw [zi] at q1 q2 ⊢
    have y := q2 t5
    refine ⟨q1, by rw [y.1, t6], by rw [y.2, t7]; rfl, fun w => ?_⟩
    rw [t7] at w
    exact absurd w (by decide)
  · have K := t4 (n + 1) (Nat.zero_le _) (by omega)
    have K : TKP v (rd (v 16) 1501 ((n : Int) + 1)) (rd (v 17) 1501 ((n : Int) + 1)) (rd (v 15) 1501 ((n : Int) + 1)) (rd (v 18) 1501 ((n : Int) + 1)) := K
    have y := q3 K.1.2
    rw [← K.2.2.1, ← K.2.2.2.1] at y
    refine ⟨q1, y.1, y.2.1, fun w => ?_⟩
    rw [y.2.2 w]
    rw [w] at K
    have kn := TKP_num K
    rw [kn.1]
    exact kn.2.2.symm
/-- what fails leaves -/
def flG (g : HP) (c : Int) : HP := if g 50 23 = 0 then up (up g 50 23 c) 50 24 (g 50 20) else g
theorem flG_fr {g : HP} {c : Int} : FrT g (flG g c) := by
  unfold flG
  split
  · exact ⟨fun q hq => by rw [up_cell hq, up_cell hq], fun q hq => by rw [up_ne (by omega), up_ne (by omega)]⟩
  · exact FrT_rf g
theorem SR_fails {T : Nat} {v g : HP} {x c : Int} (H : SR T v g) (hc : c ≠ 0) (hx : x ≠ 0) : SR T (failH v x c) (flG g c) := by
  refine ⟨⟨?_, RT_fail H.1.2 hc⟩, Or.inl ?_⟩
  · have e : flG g c 50 22 = g 50 22 := by
      unfold flG
      split
      · rw [up_ne (by decide), up_ne (by decide)]
      · rfl
    rw [e]; exact H.1.1
  · rcases H.2 with e | e
    · rw [fail_er e.1]
      unfold flG
      rw [if_neg (by rw [e.2.1]; exact e.1)]
      exact e
    · unfold flG
      rw [if_pos e.1.2]
      have f : failH v x c = up (up (up v 4 10 c) 4 11 (v 4 8)) 4 9 (-1) := by unfold failH; rw [if_pos ⟨hx, e.1.1⟩]
      rw [f]
      have a1 : up (up (up v 4 10 c) 4 11 (v 4 8)) 4 9 (-1) 4 10 = c := by rw [up_ne (by decide), up_ne (by decide), up_same]
      have a2 : up (up (up v 4 10 c) 4 11 (v 4 8)) 4 9 (-1) 4 11 = v 4 8 := by rw [up_ne (by decide), up_same]
      have a3 : up (up g 50 23 c) 50 24 (g 50 20) 50 23 = c := by rw [up_ne (by decide), up_same]
      have a4 : up (up g 50 23 c) 50 24 (g 50 20) 50 24 = g 50 20 := up_same
      exact ⟨by rw [a1]; exact hc, by rw [a1, a3], by rw [a2, a4]; exact e.2.2.2.1.1⟩
theorem fail_0 {h : HP} {c : Int} : failH h 0 c = h := by unfold failH; rw [if_neg (fun z => z.1 rfl)]
section MSR
variable {M : List CT} {T : Nat} {v g : HP} {k c x a b : Int} {sid : Nat}
theorem m_isWrong (H : SR T v g) : Ok 184 [vR 50] (LL M) g (rt (some (vI (if v 4 10 = 0 then 0 else 1))) (LL M) g) := by
  have e := SR_23 H
  refine ok_body B_X9_isWrong rfl (fun X hX => ?_)
  refine hX 20 [] 0 _ _ _ _ _ _ ?_
  refine And.intro (fun c4 => ?_) (fun c4 => ?_)
  · have c4 : g 50 23 = 0 := c4
    exact And.intro ⟨by decide, by decide⟩ (rt_mk (by rw [if_pos (by omega)]) rfl)
  · have c4 : g 50 23 ≠ 0 := c4
    exact And.intro ⟨by decide, by decide⟩ (rt_mk (by rw [if_neg (by omega)]) rfl)
theorem m_fails (H : SR T v g) : Ok 185 [vR 50, vI c] (LL M) g (rt none (LL M) (flG g c)) := by
  have e := SR_23 H
  refine ok_body B_X9_fails rfl (fun X hX => ?_)
  refine hX 30 [8] 0 _ _ _ _ _ _ ?_
  refine Ok_rt (m_isWrong H) ?_
  by_cases z : v 4 10 = 0
  · rw [if_pos z]
    refine And.intro (fun _ => ?_) (fun y => absurd rfl y)
    refine hX 30 [] 8 _ _ _ _ _ _ ?_
    refine rt_mk rfl ?_
    unfold flG
    rw [if_pos (by omega)]
    show up (up g 50 23 c) 50 24 (up g 50 23 c 50 20) = _
    rw [up_ne (by decide)]
  · rw [if_neg z]
    refine And.intro (fun y => absurd y (by decide)) (fun _ => ?_)
    exact rt_mk rfl (by unfold flG; rw [if_neg (by omega)])
end MSR
