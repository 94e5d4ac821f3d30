/-! ===== the model: names ===== -/
theorem OKR_let {T : Nat} {v g : HP} (H : OKR T v g) (R : RT T v) (k4 : 4 ≤ v 4 9) : v 4 8 < enH v ∧ ∀ q, v 4 8 ≤ q → q < enH v → ltr (txB v q) := by
  have K := (OKR_in H R (by omega)).2
  obtain ⟨⟨a, b⟩, -, c, d, -⟩ := K
  have kl := (kdT_let (h := v) (i := v 4 8) (j := enH v) (by omega)).1
  have rb := runE_bd (h := v) (i := v 4 8) b
  refine ⟨by omega, fun q q0 q1 => ?_⟩
  by_cases e : q = v 4 8
  · rw [e]; exact kl
  · have er : runE v (v 4 8) = scn (txB v) 97 122 (v 2 1 - (v 4 8 + 1)).toNat (v 4 8 + 1) := by unfold runE; rw [if_pos kl]
    rw [c, er] at q1
    exact scn_all _ _ q (by omega) q1
theorem OKR_tv {T : Nat} {v g : HP} (H : OKR T v g) (R : RT T v) (k4 : 4 ≤ v 4 9) : tvH v = if 8 < enH v - v 4 8 then 0 else pkL (fun q => txB v (v 4 8 + q)) (enH v - v 4 8).toNat 0 0 := by
  have K := (OKR_in H R (by omega)).2
  have w := K.2.2.2.2
  unfold tvW at w
  rw [if_neg (by omega)] at w
  rw [w]
  have s := pkL_sh (txB v) (v 4 8) (enH v - v 4 8).toNat 0 0
  rw [Int.add_zero] at s
  rw [s]
theorem OKR_pk {T : Nat} {v g : HP} (H : OKR T v g) (R : RT T v) (k4 : 4 ≤ v 4 9) (h8 : enH v - v 4 8 ≤ 8) : tvH v = pkN (fun k => txB v (v 4 8 + (k : Nat))) (enH v - v 4 8).toNat := by
  have L := OKR_let H R k4
  rw [OKR_tv H R k4, if_neg (by omega)]
  have o := pkL_ok (f := fun q => txB v (v 4 8 + q)) (g := fun k : Nat => txB v (v 4 8 + (k : Int))) (enH v - v 4 8).toNat 0 (by omega) (fun k hk => absurd hk (Nat.not_lt_zero _)) (fun k _ k2 => ⟨rfl, L.2 _ (by omega) (by omega)⟩)
  rw [Nat.zero_add] at o
  exact o
theorem nameB_iff {T : Nat} {v g : HP} (H : OKR T v g) (R : RT T v) : nameB v = 0 ↔ (4 ≤ v 4 9 ∧ v 4 9 < 16) ∧ enH v - v 4 8 ≤ 8 := by
  unfold nameB
  constructor
  · intro h
    split at h
    · next z =>
      refine ⟨z.1, ?_⟩
      by_cases y : 8 < enH v - v 4 8
      · have e := OKR_tv H R z.1.1
        rw [if_pos y] at e
        exact absurd e z.2
      · omega
    · exact absurd h (by decide)
  · intro h
    have L := OKR_let H R h.1.1
    have e := OKR_pk H R h.1.1 h.2
    have b := (pkN_bd (g := fun k => txB v (v 4 8 + (k : Nat))) (enH v - v 4 8).toNat (fun k hk => L.2 _ (by omega) (by omega))).2.2 (by omega)
    rw [if_pos ⟨h.1, by omega⟩]
theorem nameB_er {v : HP} (h : v 4 9 = -1) : nameB v = 1 := by
  unfold nameB
  rw [if_neg (fun z => by omega)]
theorem nameB_01 {v : HP} : nameB v = 0 ∨ nameB v = 1 := by
  unfold nameB
  split
  · exact Or.inl rfl
  · exact Or.inr rfl
/-- the names of both, and how many there may be -/
def NmR (v g : HP) : Prop := (∀ i : Nat, i < 4 → 0 ≤ rd (v 7) 4 (i : Int) ∧ rd (v 7) 4 (i : Int) ≤ capI (i : Int)) ∧ ∀ i q : Nat, i < 4 → (q : Int) < rd (v 7) 4 (i : Int) → nmOK (g 68) (fsI i + q) (rd (v 6) 32 ((i : Int) * 8 + (q : Int)))
theorem NmR_cg {v w g g' : HP} (H : NmR v g) (e6 : w 6 = v 6) (e7 : w 7 = v 7) (e : g' 68 = g 68) : NmR w g' := by
  unfold NmR at *
  rw [e6, e7, e]
  exact H
theorem tkIn_ok {T : Nat} {v g : HP} (H : OKR T v g) (R : RT T v) : tkIn g := by
  have a := OKR_at H R
  obtain ⟨-, -, -, ⟨d0, d1, -, -⟩, x⟩ := H
  unfold tkIn
  rw [d0, d1, x.2.1]
  omega
theorem tkL_v {T : Nat} {v g : HP} (H : OKR T v g) (R : RT T v) (k : Nat) : tkL g k = if v 4 8 + (k : Int) < enH v then txB v (v 4 8 + (k : Int)) else 0 := by
  have a := OKR_at H R
  obtain ⟨-, -, -, ⟨d0, d1, -, -⟩, x⟩ := H
  unfold tkL
  rw [d0, d1]
  by_cases z : v 4 8 + (k : Int) < enH v
  · rw [if_pos z, if_pos z]
    have := x.2.2 (v 4 8 + (k : Int)).toNat (by omega)
    rw [show (((v 4 8 + (k : Int)).toNat : Nat) : Int) = v 4 8 + (k : Int) by omega] at this
    exact this
  · rw [if_neg z, if_neg z]
/-- the number of the name that stands here, of both -/
theorem num_wh {T : Nat} {v g : HP} {i : Nat} (H : OKR T v g) (R : RT T v) (hn : nameB v = 0) (N : NmR v g) (hi : i < 4) : whI (fun q => sameN (tkL g) (g 68) (fsI i + q)) (rd (v 7) 4 (i : Int)).toNat (numN v (i : Int) (tvH v)) := by
  have nb := (nameB_iff H R).mp hn
  have L := OKR_let H R nb.1.1
  have et : tvH v = pkL (fun q => txB v (v 4 8 + q)) (enH v - v 4 8).toNat 0 0 := by
    rw [OKR_tv H R nb.1.1, if_neg (by omega)]
  have key : ∀ q : Nat, q < (rd (v 7) 4 (i : Int)).toNat → (((rdA v 6 32 ((i : Int) * 8 + (q : Int)) == tvH v) = true) ↔ sameN (tkL g) (g 68) (fsI i + q)) := fun q hq => by
    have e := name_eq (t := tkL g) (x := fun q => txB v (v 4 8 + q)) (len := (enH v - v 4 8).toNat) (N.2 i q hi (by omega)) (by omega) (by omega) (fun k hk => by
      rw [tkL_v H R, if_pos (by omega)]
      have l := L.2 (v 4 8 + (k : Int)) (by omega) (by omega)
      unfold ltr at l
      exact ⟨rfl, by omega⟩) (fun k hk _ => by rw [tkL_v H R, if_neg (by omega)])
    rw [beq_iff_eq, rd_A, et]
    exact e.symm
  have F := fstI_wh (fun q => rdA v 6 32 ((i : Int) * 8 + q) == tvH v) (rd (v 7) 4 (i : Int)).toNat 0
  unfold numN
  rcases F with ⟨a, b⟩ | ⟨q, q1, q2, q3, q4, q5⟩
  · exact Or.inl ⟨a, fun q hq => fun z => b q (by omega) (by omega) ((key q hq).mpr z)⟩
  · exact Or.inr ⟨q, by omega, q3, (key q (by omega)).mp q4, fun q' hq' => fun z => q5 q' (by omega) hq' ((key q' (by omega)).mpr z)⟩
section MNAME
variable {M : List CT} {T : Nat} {v g : HP} {c f b : Int}
theorem m_isName (H : SR T v g) : Ok 190 [vR 50] (LL M) g (fun o Λ' g' => Λ' = LL M ∧ g' = g ∧ ∃ x, o = .inl (some (vI x)) ∧ bI x (nameB v = 0)) := by
  refine ok_body B_X9_isName rfl (fun X hX => ?_)
  refine hX 30 [7, 29] 0 _ _ _ _ _ _ ?_
  refine Ok_rt (m_isWrong H) ?_
  have no : nameB v ≠ 0 → X 29 [vR 50] [] (LL M) g 0 0 := by
    intro hn
    refine hX 10 [] 29 _ _ _ _ _ _ ?_
    exact And.intro ⟨by decide, by decide⟩ ⟨rfl, rfl, 0, rfl, Or.inr ⟨hn, rfl⟩⟩
  by_cases z : v 4 10 = 0
  · rw [if_pos z]
    refine And.intro (fun y => absurd rfl y) (fun _ => ?_)
    have O := SR_ok H z
    have at0 := OKR_at O H.1.2
    have kd := OKR_kd O H.1.2
    have nb := nameB_iff O H.1.2
    have e21 := O.2.2.2.1.2.2.1
    have e20 := O.2.2.2.1.1
    have e19 := O.2.2.2.1.2.1
    refine hX 30 [29, 31] 7 _ _ _ _ _ _ ?_
    refine And.intro (fun c => ?_) (fun c => ?_)
    · have c : g 50 21 ≠ 1 := c
      refine no (fun y => c ?_)
      rw [e21]
      exact (srt_1 kd).mpr (nb.mp y).1.1
    · have c : g 50 21 = 1 := c
      rw [e21] at c
      have k4 := (srt_1 kd).mp c
      refine And.intro (show inR (g 50 19 - g 50 20) from ⟨by omega, by omega⟩) ?_
      refine And.intro (fun d => ?_) (fun d => ?_)
      · have d : g 50 19 - g 50 20 ≤ 8 := d
        have no98 : 16 ≤ v 4 9 → X 98 [vR 50] [] (LL M) g 0 0 := by
          intro y
          refine hX 10 [] 98 _ _ _ _ _ _ ?_
          exact And.intro ⟨by decide, by decide⟩ ⟨rfl, rfl, 0, rfl, Or.inr ⟨fun w => by have := (nb.mp w).1.2; omega, rfl⟩⟩
        have K := (OKR_in O H.1.2 (by omega)).2
        have ek := K.2.2.2.1
        have kl := kdT_let (h := v) (i := v 4 8) (j := enH v) (by omega)
        have k22 : v 4 9 ≤ 22 := by
          rw [ek, kl.2]
          rcases wdK_cases (h := v) (i := v 4 8) (j := enH v) 18 5 with ⟨a, -⟩ | ⟨q, a, b, c, -⟩ <;> omega
        refine hX 60 [98] 31 _ _ _ _ _ _ ?_
        refine Ok_mono (fun o' Λ' h2 hp => ?_) (m_isWord (sid := 12) H ⟨by decide, by decide⟩)
        obtain ⟨e1, e2, x, e3, hb⟩ := hp
        subst e1
        rw [e2, e3]
        rcases hb with ⟨y, rfl⟩ | ⟨y1, rfl⟩
        · exact And.intro (fun _ => no98 (by omega)) (fun c => absurd c (by decide))
        refine And.intro (fun c => absurd rfl c) (fun _ => ?_)
        refine Ok_mono (fun o' Λ' h2 hp => ?_) (m_isWord (sid := 13) H ⟨by decide, by decide⟩)
        obtain ⟨e1, e2, x, e3, hb⟩ := hp
        subst e1
        rw [e2, e3]
        rcases hb with ⟨y, rfl⟩ | ⟨y2, rfl⟩
        · exact And.intro (fun _ => no98 (by omega)) (fun c => absurd c (by decide))
        refine And.intro (fun c => absurd rfl c) (fun _ => ?_)
        refine Ok_mono (fun o' Λ' h2 hp => ?_) (m_isWord (sid := 14) H ⟨by decide, by decide⟩)
        obtain ⟨e1, e2, x, e3, hb⟩ := hp
        subst e1
        rw [e2, e3]
        rcases hb with ⟨y, rfl⟩ | ⟨y3, rfl⟩
        · exact And.intro (fun _ => no98 (by omega)) (fun c => absurd c (by decide))
        refine And.intro (fun c => absurd rfl c) (fun _ => ?_)
        refine Ok_mono (fun o' Λ' h2 hp => ?_) (m_isWord (sid := 15) H ⟨by decide, by decide⟩)
        obtain ⟨e1, e2, x, e3, hb⟩ := hp
        subst e1
        rw [e2, e3]
        rcases hb with ⟨y, rfl⟩ | ⟨y4, rfl⟩
        · exact And.intro (fun _ => no98 (by omega)) (fun c => absurd c (by decide))
        refine And.intro (fun c => absurd rfl c) (fun _ => ?_)
        refine Ok_mono (fun o' Λ' h2 hp => ?_) (m_isWord (sid := 16) H ⟨by decide, by decide⟩)
        obtain ⟨e1, e2, x, e3, hb⟩ := hp
        subst e1
        rw [e2, e3]
        rcases hb with ⟨y, rfl⟩ | ⟨y5, rfl⟩
        · exact And.intro (fun _ => no98 (by omega)) (fun c => absurd c (by decide))
        refine And.intro (fun c => absurd rfl c) (fun _ => ?_)
        refine Ok_mono (fun o' Λ' h2 hp => ?_) (m_isWord (sid := 17) H ⟨by decide, by decide⟩)
        obtain ⟨e1, e2, x, e3, hb⟩ := hp
        subst e1
        rw [e2, e3]
        rcases hb with ⟨y, rfl⟩ | ⟨y6, rfl⟩
        · exact And.intro (fun _ => no98 (by omega)) (fun c => absurd c (by decide))
        refine And.intro (fun c => absurd rfl c) (fun _ => ?_)
        refine Ok_mono (fun o' Λ' h2 hp => ?_) (m_isWord (sid := 18) H ⟨by decide, by decide⟩)
        obtain ⟨e1, e2, x, e3, hb⟩ := hp
        subst e1
        rw [e2, e3]
        rcases hb with ⟨y, rfl⟩ | ⟨y7, rfl⟩
        · exact And.intro (fun _ => no98 (by omega)) (fun c => absurd c (by decide))
        refine And.intro (fun c => absurd rfl c) (fun _ => ?_)
        exact And.intro ⟨by decide, by decide⟩ ⟨rfl, rfl, 1, rfl, Or.inl ⟨nb.mpr ⟨⟨k4, by omega⟩, by omega⟩, rfl⟩⟩
      · have d : 8 < g 50 19 - g 50 20 := d
        exact no (fun y => by have := (nb.mp y).2; omega)
  · rw [if_neg z]
    refine And.intro (fun _ => ?_) (fun y => absurd y (by decide))
    exact no (by rw [nameB_er (SR_k1 H z)]; decide)
/-- what a known name is asked by -/
def AskN (v g : HP) (i : Nat) (f c : Int) : Prop := v 4 10 = 0 → NmR v g ∧ f = (fsI i : Int) ∧ c = rd (v 7) 4 (i : Int)
theorem m_namedOf {i : Nat} (H : SR T v g) (hi : i < 4) (A : AskN v g i f c) : Ok 194 [vR 50, vI f, vI c] (LL M) g (fun o Λ' g' => Λ' = LL M ∧ FrT g g' ∧ SR T (knH v (i : Int)) g' ∧ ∃ r, o = .inl (some (vI r)) ∧ (-1 ≤ r ∧ r ≤ 8) ∧ (knH v (i : Int) 4 10 = 0 → r = numN v (i : Int) (tvH v) ∧ 0 ≤ r ∧ r < rd (v 7) 4 (i : Int))) := by
  refine ok_body B_X9_namedOf rfl (fun X hX => ?_)
  refine hX 30 [7, 12] 0 _ _ _ _ _ _ ?_
  refine Ok_mono (fun o' Λ' h2 hp => ?_) (m_isName H)
  obtain ⟨e1, e2, x, e3, hb⟩ := hp
  subst e1
  rw [e2, e3]
  rcases hb with ⟨hn, rfl⟩ | ⟨hn, rfl⟩
  · refine And.intro (fun _ => ?_) (fun y => absurd y (by decide))
    have z : v 4 10 = 0 := by
      by_cases z : v 4 10 = 0
      · exact z
      · have := nameB_er (SR_k1 H z)
        omega
    have O := SR_ok H z
    have at0 := OKR_at O H.1.2
    obtain ⟨N, ef, ec⟩ := A z
    have cb := N.1 i hi
    have fc : (fsI i : Int) + capI (i : Int) ≤ 24 ∧ capI (i : Int) ≤ 8 := by
      have c4 : i = 0 ∨ i = 1 ∨ i = 2 ∨ i = 3 := by omega
      rcases c4 with rfl | rfl | rfl | rfl <;> decide
    have wh := num_wh O H.1.2 hn N hi
    have ek : knH v (i : Int) = passH (failH v (if numN v (i : Int) (tvH v) = -1 then 1 else 0) 4) := by
      unfold knH
      rw [hn, fail_0]
    have k1 : v 4 9 ≠ 1 := nameB_0 hn
    refine hX 30 [32] 12 _ _ _ _ _ _ ?_
    refine Ok_rt (m_isWrong H) ?_
    rw [if_pos z]
    refine And.intro (fun _ => ?_) (fun y => absurd rfl y)
    have wo := m_whichOf (M := M) (h := g) (nc := 68) (f := fsI i) (m := (rd (v 7) 4 (i : Int)).toNat) (Or.inr rfl) (tkIn_ok O H.1.2) (by omega)
    rw [show (((rd (v 7) 4 (i : Int)).toNat : Nat) : Int) = c by omega, ← ef] at wo
    refine Ok_mono (fun o' Λ' h2 hp => ?_) wo
    obtain ⟨e1, e2, r, e3, hw⟩ := hp
    have er := whI_fun hw wh
    subst e1
    rw [e2, e3]
    show X 32 [_, _, _, vI r] _ _ _ _ _
    have rb : -1 ≤ r ∧ r < rd (v 7) 4 (i : Int) ∨ r = -1 := by
      rcases hw with ⟨a, -⟩ | ⟨q, q1, q2, -⟩
      · exact Or.inr a
      · exact Or.inl (by omega)
    refine hX 30 [42] 32 _ _ _ _ _ _ ?_
    refine And.intro (fun c1 => ?_) (fun c1 => ?_)
    · have c1 : r ≠ -1 := c1
      have ek2 : knH v (i : Int) = passH v := by rw [ek, ← er, if_neg c1, fail_0]
      have r0 : 0 ≤ r ∧ r < rd (v 7) 4 (i : Int) := by
        rcases hw with ⟨a, -⟩ | ⟨q, q1, q2, -⟩
        · exact absurd a c1
        · omega
      refine hX 30 [] 42 _ _ _ _ _ _ ?_
      refine Ok_rt (m_isWrong H) ?_
      rw [if_pos z]
      refine And.intro (fun y => absurd rfl y) (fun _ => ?_)
      refine Ok_mono (fun o' Λ' h2 hp => ?_) (m_token O.2.2.2.2 (by rw [O.2.2.2.1.2.1]; omega) H.1.1)
      obtain ⟨e1, e2, F, P⟩ := hp
      subst e1
      subst e2
      refine ⟨rfl, FrT_K F, ⟨⟨P.2.2.2, RT_kn H.1.2⟩, ?_⟩, r, rfl, by omega, fun _ => ⟨er, r0⟩⟩
      rw [ek2]
      exact Or.inr (OKR_pass O H.1.2 k1 F P)
    · have c1 : r = -1 := c1
      have H1 := SR_fails (c := 4) (x := 1) H (by decide) (by decide)
      have z1 : failH v 1 4 4 10 ≠ 0 := fun w => absurd (fail_10 (by decide) w).2 (by decide)
      have ek2 : knH v (i : Int) = failH v 1 4 := by rw [ek, ← er, if_pos c1, pass_er z1]
      refine Ok_rt (m_fails H) ?_
      refine hX 30 [] 42 _ _ _ _ _ _ ?_
      refine Ok_rt (m_isWrong H1) ?_
      rw [if_neg z1]
      refine And.intro (fun _ => ?_) (fun y => absurd y (by decide))
      refine ⟨rfl, flG_fr, ?_, r, rfl, by omega, fun w => ?_⟩
      · rw [ek2]; exact H1
      · rw [ek2] at w
        exact absurd w z1
  · refine And.intro (fun y => absurd rfl y) (fun _ => ?_)
    have n1 : nameB v = 1 := by
      rcases nameB_01 (v := v) with y | y
      · exact absurd y hn
      · exact y
    have H1 := SR_fails (c := 1) (x := 1) H (by decide) (by decide)
    have z1 : failH v 1 1 4 10 ≠ 0 := fun w => absurd (fail_10 (by decide) w).2 (by decide)
    have ek2 : knH v (i : Int) = failH v 1 1 := by
      unfold knH
      rw [n1, fail_er z1, pass_er z1]
    refine hX 30 [12] 7 _ _ _ _ _ _ ?_
    refine Ok_rt (m_fails H) ?_
    refine hX 30 [] 12 _ _ _ _ _ _ ?_
    refine Ok_rt (m_isWrong H1) ?_
    rw [if_neg z1]
    refine And.intro (fun y => absurd y (by decide)) (fun _ => ?_)
    refine ⟨rfl, flG_fr, ?_, 0, rfl, ⟨by decide, by decide⟩, fun w => ?_⟩
    · rw [ek2]; exact H1
    · rw [ek2] at w
      exact absurd w z1
theorem m_measureHere (H : SR T v g) (A : v 4 10 = 0 → NmR v g ∧ g 50 26 = rd (v 7) 4 1) : Ok 195 [vR 50] (LL M) g (fun o Λ' g' => Λ' = LL M ∧ FrT g g' ∧ SR T (knH v 1) g' ∧ ∃ r, o = .inl (some (vI r)) ∧ (-1 ≤ r ∧ r ≤ 8) ∧ (knH v 1 4 10 = 0 → r = numN v 1 (tvH v) ∧ 0 ≤ r ∧ r < rd (v 7) 4 1)) := by
  refine ok_body B_X9_measureHere rfl (fun X hX => ?_)
  refine hX 30 [] 0 _ _ _ _ _ _ ?_
  refine Ok_mono (fun o' Λ' h2 hp => ?_) (m_namedOf (i := 1) H (by decide) (fun z => ⟨(A z).1, rfl, (A z).2⟩))
  obtain ⟨e1, F, S, r, e3, rb, hr⟩ := hp
  subst e1
  rw [e3]
  exact ⟨rfl, F, S, r, rfl, rb, hr⟩
end MNAME
