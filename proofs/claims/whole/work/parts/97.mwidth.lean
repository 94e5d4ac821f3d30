/-! ===== the model: the width and the color of a part ===== -/
/-- the part's row and its ease, and what has not changed -/
def WC (g a : HP) (row ease : Nat) (m P Q E : Int) : Prop :=
  ((∀ c, c ≠ 50 → c ≠ 66 → c ≠ 67 → a c = g c) ∧ ∀ q, (q < 19 ∨ 24 < q) → a 50 q = g 50 q) ∧
  (∀ q, rd (a 66) 480 q = if q = (row : Int) + 2 then m else if q = (row : Int) + 3 then P else if q = (row : Int) + 4 then Q else rd (g 66) 480 q) ∧ ∀ q, rd (a 67) 132 q = if q = (ease : Int) then E else rd (g 67) 132 q
theorem WC_T {g a b : HP} {row ease : Nat} {m P Q E : Int} (H : WC g a row ease m P Q E) (F : FrT a b) : WC g b row ease m P Q E :=
  ⟨⟨fun c h0 h1 h2 => (F.1 c h0).trans (H.1.1 c h0 h1 h2), fun q hq => (F.2 q hq).trans (H.1.2 q hq)⟩, fun q => by rw [F.1 66 (by decide)]; exact H.2.1 q, fun q => by rw [F.1 67 (by decide)]; exact H.2.2 q⟩
theorem WC_P {g a : HP} {row ease : Nat} {m P Q E x : Int} (hr : row + 4 < 480) (H : WC g a row ease m P Q E) : WC g (up a 66 (row + 3) x) row ease m x Q E := by
  refine ⟨⟨fun c h0 h1 h2 => (up_cell h1).trans (H.1.1 c h0 h1 h2), fun q hq => by rw [up_cell (by decide)]; exact H.1.2 q hq⟩, fun q => ?_, fun q => by rw [up_cell (by decide)]; exact H.2.2 q⟩
  rw [rd_up (by omega), H.2.1 q]
  by_cases z : q = (row : Int) + 3
  · rw [if_pos (by omega), if_neg (by omega), if_pos z]
  · rw [if_neg (by omega), if_neg z, if_neg z]
theorem WC_Q {g a : HP} {row ease : Nat} {m P Q E x : Int} (hr : row + 4 < 480) (H : WC g a row ease m P Q E) : WC g (up a 66 (row + 4) x) row ease m P x E := by
  refine ⟨⟨fun c h0 h1 h2 => (up_cell h1).trans (H.1.1 c h0 h1 h2), fun q hq => by rw [up_cell (by decide)]; exact H.1.2 q hq⟩, fun q => ?_, fun q => by rw [up_cell (by decide)]; exact H.2.2 q⟩
  rw [rd_up (by omega), H.2.1 q]
  by_cases z : q = (row : Int) + 4
  · rw [if_pos (by omega), if_neg (by omega), if_neg (by omega), if_pos z]
  · rw [if_neg (by omega), if_neg z, if_neg z]
theorem WC_E {g a : HP} {row ease : Nat} {m P Q E x : Int} (he : ease < 132) (H : WC g a row ease m P Q E) : WC g (up a 67 ease x) row ease m P Q x := by
  refine ⟨⟨fun c h0 h1 h2 => (up_cell h2).trans (H.1.1 c h0 h1 h2), fun q hq => by rw [up_cell (by decide)]; exact H.1.2 q hq⟩, fun q => by rw [up_cell (by decide)]; exact H.2.1 q, fun q => ?_⟩
  rw [rd_up he, H.2.2 q]
  by_cases z : q = (ease : Int)
  · rw [if_pos z, if_pos z]
  · rw [if_neg z, if_neg z, if_neg z]
theorem WC_0 {g a : HP} {row ease : Nat} {m : Int} (hr : row + 4 < 480) (he : ease < 132) (F : FrT g a) : WC g (up (up (up (up a 66 (row + 2) m) 66 (row + 3) 1) 66 (row + 4) 0) 67 ease 0) row ease m 1 0 0 := by
  refine ⟨⟨fun c h0 h1 h2 => by rw [up_cell h2, up_cell h1, up_cell h1, up_cell h1]; exact F.1 c h0, fun q hq => by rw [up_cell (by decide), up_cell (by decide), up_cell (by decide), up_cell (by decide)]; exact F.2 q hq⟩, fun q => ?_, fun q => ?_⟩
  · rw [up_cell (by decide), rd_up (by omega), rd_up (by omega), rd_up (by omega), F.1 66 (by decide)]
    by_cases z : q = (row : Int) + 2
    · rw [if_neg (by omega), if_neg (by omega), if_pos (by omega), if_pos z]
    · by_cases y : q = (row : Int) + 3
      · rw [if_neg (by omega), if_pos (by omega), if_neg z, if_pos y]
      · by_cases w : q = (row : Int) + 4
        · rw [if_pos (by omega), if_neg z, if_neg y, if_pos w]
        · rw [if_neg (by omega), if_neg (by omega), if_neg (by omega), if_neg z, if_neg y, if_neg w]
  · rw [rd_up he, up_cell (by decide), up_cell (by decide), up_cell (by decide), F.1 67 (by decide)]
/-- the class's cells behind a width -/
theorem wd_cells {v : HP} {i j : Int} (e : wdH v i j 4 10 = 0) (hi : (0 ≤ i ∧ i < 6) ∧ 0 ≤ j ∧ j < 10) :
    (∀ q, rd (wdH v i j 12) 540 q = if q = (i * 10 + j) * 9 + 5 then wdQ (wdEH (wdA v i j)) else if q = (i * 10 + j) * 9 + 4 then wdP (wdEH (wdA v i j)) else if q = (i * 10 + j) * 9 + 2 then numN v 1 (tvH v) else rd (v 12) 540 q) ∧
    ∀ q, rd (wdH v i j 14) 132 q = if q = 72 + i * 10 + j then wdE (wdA v i j) else rd (v 14) 132 q := by
  have z3 : wdFH (wdEH (wdA v i j)) 4 10 = 0 := by rw [← wd_4]; exact e
  have zk : knH v 1 4 10 = 0 := by
    have a : wdA v i j 4 10 = 0 := by
      by_cases y : wdA v i j 4 10 = 0
      · exact y
      · rw [wdEH_er y, wdFH_er y] at z3
        exact absurd z3 y
    unfold wdA at a
    rw [tl_4] at a
    exact a
  have eS : wdS (wdFH (wdEH (wdA v i j))) i j (wdE (wdA v i j)) = wrA (wdFH (wdEH (wdA v i j))) 14 132 (72 + i * 10 + j) (wdE (wdA v i j)) := by unfold wdS; rw [if_pos z3]
  have eH : wdH v i j = wrA (wrA (wrA (wdFH (wdEH (wdA v i j))) 14 132 (72 + i * 10 + j) (wdE (wdA v i j))) 12 540 ((i * 10 + j) * 9 + 4) (wdP (wdEH (wdA v i j)))) 12 540 ((i * 10 + j) * 9 + 5) (wdQ (wdEH (wdA v i j))) := by
    unfold wdH wdG
    rw [eS]
    have a : tlH (wrA (wdFH (wdEH (wdA v i j))) 14 132 (72 + i * 10 + j) (wdE (wdA v i j))) i j 4 (wdP (wdEH (wdA v i j))) = wrA (wrA (wdFH (wdEH (wdA v i j))) 14 132 (72 + i * 10 + j) (wdE (wdA v i j))) 12 540 ((i * 10 + j) * 9 + 4) (wdP (wdEH (wdA v i j))) := by
      unfold tlH
      rw [if_pos (by rw [wrA_cell (by decide)]; exact z3)]
    rw [a]
    unfold tlH
    rw [if_pos (by rw [wrA_cell (by decide), wrA_cell (by decide)]; exact z3)]
  have e12 : ∀ q, rd (wdFH (wdEH (wdA v i j)) 12) 540 q = if q = (i * 10 + j) * 9 + 2 then numN v 1 (tvH v) else rd (v 12) 540 q := fun q => by
    rw [wdFH_cell (by decide), wdEH_cell (by decide)]
    unfold wdA tlH
    rw [if_pos zk, rd_w, kn_cell (by decide)]
    by_cases y : q = (i * 10 + j) * 9 + 2
    · rw [if_pos ⟨by omega, by omega, y⟩, if_pos y]
    · rw [if_neg (fun u => y u.2.2), if_neg y]
  refine ⟨fun q => ?_, fun q => ?_⟩
  · rw [eH, rd_w, rd_w, wrA_cell (by decide), e12]
    by_cases y : q = (i * 10 + j) * 9 + 5
    · rw [if_pos ⟨by omega, by omega, y⟩, if_pos y]
    · rw [if_neg (fun u => y u.2.2), if_neg y]
      by_cases x : q = (i * 10 + j) * 9 + 4
      · rw [if_pos ⟨by omega, by omega, x⟩, if_pos x]
      · rw [if_neg (fun u => x u.2.2), if_neg x]
  · rw [eH, wrA_cell (by decide), wrA_cell (by decide), rd_w, wdFH_cell (by decide), wdEH_cell (by decide), wdA_cell (by decide) (by decide)]
    by_cases y : q = 72 + i * 10 + j
    · rw [if_pos ⟨by omega, by omega, y⟩, if_pos y]
    · rw [if_neg (fun u => y u.2.2), if_neg y]
theorem SR_wd {T : Nat} {v g : HP} {i j : Int} (H : SR T (wdFH (wdEH (wdA v i j))) g) : SR T (wdH v i j) g := by
  have c : ∀ q, q ≠ 12 → q ≠ 14 → wdH v i j q = wdFH (wdEH (wdA v i j)) q := fun q h0 h1 => by
    unfold wdH wdG
    rw [tl_cell h0, tl_cell h0]
    unfold wdS
    split
    · rw [wrA_cell h1]
    · rfl
  exact SR_cls H (c 2 (by decide) (by decide)) (c 3 (by decide) (by decide)) (c 4 (by decide) (by decide)) (fun q h0 h1 => c q (by omega) (by omega))
theorem SR_tl {T : Nat} {v g : HP} {i j k x : Int} (H : SR T v g) : SR T (tlH v i j k x) g := SR_cls H (tl_cell (by decide)) (tl_cell (by decide)) tl_4 (fun q h0 h1 => tl_cell (by omega))
section MWIDTH
variable {M : List CT} {T : Nat} {v g : HP} {i j : Int}
/-- a token that is passed where its kind is known -/
theorem m_tokenP (S : SR T v g) (z : v 4 10 = 0) (k : v 4 9 ≠ 1) : Ok 183 [vR 50] (LL M) g (fun o Λ' g' => o = .inl none ∧ Λ' = LL M ∧ FrT g g' ∧ SR T (passH v) g') := by
  have O := SR_ok S z
  have at0 := OKR_at O S.1.2
  refine Ok_mono (fun o Λ' g1 hp => ?_) (m_token O.2.2.2.2 (by rw [O.2.2.2.1.2.1]; omega) S.1.1)
  obtain ⟨e1, e2, F1, P1⟩ := hp
  exact ⟨e1, e2, FrT_K F1, ⟨P1.2.2.2, RT_pass S.1.2 (fun _ => k)⟩, Or.inr (OKR_pass O S.1.2 k F1 P1)⟩
theorem SR_kz {k : Int} (S : SR T v g) (h : v 4 9 = k) (hk : k ≠ -1) : v 4 10 = 0 := by
  by_cases z : v 4 10 = 0
  · exact z
  · exact absurd (h.symm.trans (SR_k1 S z)) hk
theorem mr_width {row ease : Nat} (S : SR T v g) (hr : row + 8 ≤ 480) (he : ease < 132) (hi : (0 ≤ i ∧ i < 6) ∧ 0 ≤ j ∧ j < 10) (A : v 4 10 = 0 → NmR v g ∧ g 50 26 = rd (v 7) 4 1) :
    Ok 202 [vR 50, vI (row : Int), vI (ease : Int)] (LL M) g (fun o Λ' g' => o = .inl none ∧ Λ' = LL M ∧ SR T (wdH v i j) g' ∧ ∃ m P Q E, WC g g' row ease m P Q E ∧ (wdH v i j 4 10 = 0 →
      (m = numN v 1 (tvH v) ∧ P = wdP (wdEH (wdA v i j)) ∧ Q = wdQ (wdEH (wdA v i j)) ∧ E = wdE (wdA v i j)) ∧ (0 ≤ m ∧ m < rd (v 7) 4 1) ∧ (1 ≤ P ∧ P ≤ 30) ∧ (0 ≤ Q ∧ Q < P) ∧ -999 ≤ E ∧ E ≤ 999)) := by
  refine ok_body B_X9_width rfl (fun X hX => ?_)
  /- with or without a multiple -/
  have at89 : ∀ (g1 : HP) (s m E : Int), SR T (wdEH (wdA v i j)) g1 → WC g g1 row ease m 1 0 E → (wdEH (wdA v i j) 4 10 = 0 → (m = numN v 1 (tvH v) ∧ E = wdE (wdA v i j)) ∧ (0 ≤ m ∧ m < rd (v 7) 4 1) ∧ -999 ≤ E ∧ E ≤ 999) → X 89 [vR 50, vI (row : Int), vI (ease : Int), vI s] [] (LL M) g1 0 0 := by
    intro g1 s m E S1 C1 K
    refine hX 30 [99] 89 _ _ _ _ _ _ ?_
    refine Ok_mono (fun o' Λ' h2 hp => ?_) (m_word 14 18 ⟨by decide, by decide⟩ (by decide) S1)
    obtain ⟨e1, e2, x, e3, hb⟩ := hp
    subst e1
    rw [e2, e3]
    rcases hb with ⟨k18, rfl⟩ | ⟨k18, rfl⟩
    · refine And.intro (fun _ => ?_) (fun y => absurd y (by decide))
      have z1 := SR_kz S1 k18 (by decide)
      have K1 := K z1
      refine hX 30 [118] 99 _ _ _ _ _ _ ?_
      refine Ok_mono (fun o' Λ' g2 hp => ?_) (m_tokenP S1 z1 (by omega))
      obtain ⟨e1, e2, F2, S2⟩ := hp
      subst e1
      subst e2
      refine And.intro (show inR ((row : Int) + 3) from ⟨by omega, by omega⟩) ?_
      refine Ok_mono (fun o' Λ' g3 hp => ?_) (m_figure (a := 1) (b := 30) S2 ⟨by decide, by decide⟩)
      obtain ⟨e1, F3, S3, r, e3, rb, hr2⟩ := hp
      subst e1
      rw [e3]
      refine And.intro (show 0 ≤ (row : Int) + 3 ∧ (row : Int) + 3 < 480 from ⟨by omega, by omega⟩) ?_
      rw [show ((row : Int) + 3).toNat = row + 3 by omega]
      have S3 : SR T (wdPA (wdEH (wdA v i j))) g3 := S3
      have S4 : SR T (wdPA (wdEH (wdA v i j))) (up g3 66 (row + 3) r) := SR_up S3 ⟨by decide, by decide⟩
      have C4 : WC g (up g3 66 (row + 3) r) row ease m r 0 E := WC_P (by omega) (WC_T (WC_T C1 F2) F3)
      have eP : wdPA (wdEH (wdA v i j)) 4 10 = 0 → r = wdP (wdEH (wdA v i j)) ∧ 1 ≤ r ∧ r ≤ 30 := fun y => by
        have h := hr2 y
        refine ⟨?_, h.2⟩
        unfold wdP
        rw [if_pos k18]
        exact h.1
      refine hX 30 [128] 118 _ _ _ _ _ _ ?_
      refine Ok_mono (fun o' Λ' h2 hp => ?_) (m_word 11 15 ⟨by decide, by decide⟩ (by decide) S4)
      obtain ⟨e1, e2, x, e3, hb⟩ := hp
      subst e1
      rw [e2, e3]
      rcases hb with ⟨k15, rfl⟩ | ⟨k15, rfl⟩
      · refine And.intro (fun _ => ?_) (fun y => absurd y (by decide))
        have z4 := SR_kz S4 k15 (by decide)
        have p4 := eP z4
        have eF : wdFH (wdEH (wdA v i j)) = numH (passH (wdPA (wdEH (wdA v i j)))) 0 (r - 1) := by
          unfold wdFH
          rw [if_pos k18, if_pos k15, ← p4.1]
        refine hX 30 [] 128 _ _ _ _ _ _ ?_
        refine Ok_mono (fun o' Λ' g5 hp => ?_) (m_tokenP S4 z4 (by omega))
        obtain ⟨e1, e2, F5, S5⟩ := hp
        subst e1
        subst e2
        have C5 := WC_T C4 F5
        have e66 : g5 66 ((row : Int) + 3).toNat = r := by
          have c := C5.2.1 ((row : Int) + 3)
          rw [if_neg (by omega), if_pos rfl, rd_in (by omega) (by omega)] at c
          exact c
        refine And.intro (show inR ((row : Int) + 4) from ⟨by omega, by omega⟩) ?_
        refine And.intro (show inR ((row : Int) + 3) from ⟨by omega, by omega⟩) ?_
        refine And.intro (show 0 ≤ (row : Int) + 3 ∧ (row : Int) + 3 < 480 from ⟨by omega, by omega⟩) ?_
        rw [e66]
        refine And.intro (show inR (r - 1) from ⟨by omega, by omega⟩) ?_
        refine Ok_mono (fun o' Λ' g6 hp => ?_) (m_figure (a := 0) (b := r - 1) S5 ⟨by decide, by decide⟩)
        obtain ⟨e1, F6, S6, r2, e3, rb2, hr3⟩ := hp
        subst e1
        rw [e3]
        refine And.intro (show 0 ≤ (row : Int) + 4 ∧ (row : Int) + 4 < 480 from ⟨by omega, by omega⟩) ?_
        rw [show ((row : Int) + 4).toNat = row + 4 by omega]
        rw [← eF] at S6 hr3
        refine ⟨rfl, rfl, SR_wd (SR_up S6 ⟨by decide, by decide⟩), m, r, r2, E, WC_Q (by omega) (WC_T C5 F6), fun y => ?_⟩
        rw [wd_4] at y
        have h3 := hr3 y
        refine ⟨⟨K1.1.1, p4.1, ?_, K1.1.2⟩, K1.2.1, p4.2, by omega, K1.2.2⟩
        unfold wdQ
        rw [if_pos k18, if_pos k15]
        exact h3.1
      · refine And.intro (fun y => absurd rfl y) (fun _ => ?_)
        have eF : wdFH (wdEH (wdA v i j)) = wdPA (wdEH (wdA v i j)) := by
          unfold wdFH
          rw [if_pos k18, if_neg k15]
        refine ⟨rfl, rfl, SR_wd (by rw [eF]; exact S4), m, r, 0, E, C4, fun y => ?_⟩
        rw [wd_4, eF] at y
        have p4 := eP y
        refine ⟨⟨K1.1.1, p4.1, ?_, K1.1.2⟩, K1.2.1, p4.2, by omega, K1.2.2⟩
        unfold wdQ
        rw [if_pos k18, if_neg k15]
    · refine And.intro (fun y => absurd rfl y) (fun _ => ?_)
      have eF : wdFH (wdEH (wdA v i j)) = wdEH (wdA v i j) := by unfold wdFH; rw [if_neg k18]
      refine ⟨rfl, rfl, SR_wd (by rw [eF]; exact S1), m, 1, 0, E, C1, fun y => ?_⟩
      rw [wd_4, eF] at y
      have K1 := K y
      refine ⟨⟨K1.1.1, ?_, ?_, K1.1.2⟩, K1.2.1, ⟨by decide, by decide⟩, ⟨by decide, by decide⟩, K1.2.2⟩
      · unfold wdP
        rw [if_neg k18]
      · unfold wdQ
        rw [if_neg k18]
  have at65 : ∀ (g1 : HP) (s m : Int), SR T (wdA v i j) g1 → WC g g1 row ease m 1 0 0 → (wdA v i j 4 10 = 0 → m = numN v 1 (tvH v) ∧ 0 ≤ m ∧ m < rd (v 7) 4 1) → (s = 1 ∧ wdA v i j 4 9 = 16) ∨ (s = -1 ∧ wdA v i j 4 9 = 17) ∨ (s = 0 ∧ wdA v i j 4 9 ≠ 16 ∧ wdA v i j 4 9 ≠ 17) → X 65 [vR 50, vI (row : Int), vI (ease : Int), vI s] [] (LL M) g1 0 0 := by
    intro g1 s m S1 C1 K hs
    refine hX 30 [89] 65 _ _ _ _ _ _ ?_
    refine And.intro (fun c => ?_) (fun c => ?_)
    · have c : s = 0 := c
      have k : wdA v i j 4 9 ≠ 16 ∧ wdA v i j 4 9 ≠ 17 := by omega
      have eE : wdEH (wdA v i j) = wdA v i j := by unfold wdEH; rw [if_neg k.1, if_neg k.2]
      refine at89 g1 s m 0 (by rw [eE]; exact S1) C1 (fun y => ?_)
      rw [eE] at y
      have h := K y
      refine ⟨⟨h.1, ?_⟩, h.2, by decide, by decide⟩
      unfold wdE
      rw [if_neg k.1, if_neg k.2]
    · have c : s ≠ 0 := c
      have k : wdA v i j 4 9 = 16 ∨ wdA v i j 4 9 = 17 := by omega
      have z1 : wdA v i j 4 10 = 0 := by
        rcases k with k | k
        · exact SR_kz S1 k (by decide)
        · exact SR_kz S1 k (by decide)
      have h := K z1
      have eE : wdEH (wdA v i j) = numH (passH (wdA v i j)) 0 999 := by
        unfold wdEH
        rcases k with k | k
        · rw [if_pos k]
        · rw [if_neg (by omega), if_pos k]
      refine Ok_mono (fun o' Λ' g2 hp => ?_) (m_tokenP S1 z1 (by omega))
      obtain ⟨e1, e2, F2, S2⟩ := hp
      subst e1
      subst e2
      refine Ok_mono (fun o' Λ' g3 hp => ?_) (m_figure (a := 0) (b := 999) S2 ⟨by decide, by decide⟩)
      obtain ⟨e1, F3, S3, r, e3, rb, hr2⟩ := hp
      subst e1
      rw [e3]
      have sr : inR (s * r) := by
        have : s = 1 ∨ s = -1 := by omega
        rcases this with rfl | rfl
        · exact ⟨by omega, by omega⟩
        · exact ⟨by omega, by omega⟩
      refine And.intro sr ?_
      refine And.intro (show 0 ≤ (ease : Int) ∧ (ease : Int) < 132 from ⟨by omega, by omega⟩) ?_
      rw [show ((ease : Int)).toNat = ease by omega]
      rw [← eE] at S3 hr2
      refine at89 _ s m (s * r) (SR_up S3 ⟨by decide, by decide⟩) (WC_E he (WC_T (WC_T C1 F2) F3)) (fun y => ?_)
      have q := hr2 y
      refine ⟨⟨h.1, ?_⟩, h.2, ?_⟩
      · unfold wdE
        rcases hs with ⟨rfl, k16⟩ | ⟨rfl, k17⟩ | ⟨rfl, -⟩
        · rw [if_pos k16, ← q.1]; omega
        · rw [if_neg (by omega), if_pos k17, ← q.1]; omega
        · exact absurd rfl c
      · have : s = 1 ∨ s = -1 := by omega
        rcases this with rfl | rfl <;> omega
  refine hX 30 [37] 0 _ _ _ _ _ _ ?_
  refine And.intro (show inR ((row : Int) + 2) from ⟨by omega, by omega⟩) ?_
  refine Ok_mono (fun o' Λ' g1 hp => ?_) (m_measureHere S A)
  obtain ⟨e1, F1, S1, r, e3, rb, hr1⟩ := hp
  subst e1
  rw [e3]
  refine And.intro (show 0 ≤ (row : Int) + 2 ∧ (row : Int) + 2 < 480 from ⟨by omega, by omega⟩) ?_
  refine And.intro (show inR ((row : Int) + 3) from ⟨by omega, by omega⟩) ?_
  refine And.intro (show 0 ≤ (row : Int) + 3 ∧ (row : Int) + 3 < 480 from ⟨by omega, by omega⟩) ?_
  refine And.intro (show inR ((row : Int) + 4) from ⟨by omega, by omega⟩) ?_
  refine And.intro (show 0 ≤ (row : Int) + 4 ∧ (row : Int) + 4 < 480 from ⟨by omega, by omega⟩) ?_
  refine And.intro (show 0 ≤ (ease : Int) ∧ (ease : Int) < 132 from ⟨by omega, by omega⟩) ?_
  rw [show ((row : Int) + 2).toNat = row + 2 by omega, show ((row : Int) + 3).toNat = row + 3 by omega, show ((row : Int) + 4).toNat = row + 4 by omega, show ((ease : Int)).toNat = ease by omega]
  obtain ⟨g2, eg⟩ : ∃ g2 : HP, g2 = up (up (up (up g1 66 (row + 2) r) 66 (row + 3) 1) 66 (row + 4) 0) 67 ease 0 := ⟨_, rfl⟩
  rw [← eg]
  have C2 : WC g g2 row ease r 1 0 0 := by rw [eg]; exact WC_0 (by omega) he F1
  have S2 : SR T (wdA v i j) g2 := by
    rw [eg]
    exact SR_tl (SR_up (SR_up (SR_up (SR_up S1 ⟨by decide, by decide⟩) ⟨by decide, by decide⟩) ⟨by decide, by decide⟩) ⟨by decide, by decide⟩)
  have K2 : wdA v i j 4 10 = 0 → r = numN v 1 (tvH v) ∧ 0 ≤ r ∧ r < rd (v 7) 4 1 := fun y => by
    unfold wdA at y
    rw [tl_4] at y
    exact hr1 y
  refine hX 30 [50, 64] 37 _ _ _ _ _ _ ?_
  refine Ok_mono (fun o' Λ' h2 hp => ?_) (m_word 12 16 ⟨by decide, by decide⟩ (by decide) S2)
  obtain ⟨e1, e2, x, e3, hb⟩ := hp
  subst e1
  rw [e2, e3]
  have at64 : ∀ (s : Int) (j3 : PV), ((s = 1 ∧ wdA v i j 4 9 = 16) ∨ (s = -1 ∧ wdA v i j 4 9 = 17) ∨ (s = 0 ∧ wdA v i j 4 9 ≠ 16 ∧ wdA v i j 4 9 ≠ 17)) → X 64 [vR 50, vI (row : Int), vI (ease : Int), j3] [vI s] (LL M) g2 0 0 := by
    intro s j3 hs
    refine hX 30 [65] 64 _ _ _ _ _ _ ?_
    show X 65 [_, _, _, vI s] _ _ _ _ _
    exact at65 g2 s r S2 C2 K2 hs
  rcases hb with ⟨k16, rfl⟩ | ⟨k16, rfl⟩
  · refine And.intro (fun y => absurd y (by decide)) (fun _ => ?_)
    exact at64 1 _ (Or.inl ⟨rfl, k16⟩)
  · refine And.intro (fun _ => ?_) (fun y => absurd rfl y)
    refine hX 30 [64] 50 _ _ _ _ _ _ ?_
    refine Ok_mono (fun o' Λ' h2 hp => ?_) (m_word 13 17 ⟨by decide, by decide⟩ (by decide) S2)
    obtain ⟨e1, e2, x, e3, hb⟩ := hp
    subst e1
    rw [e2, e3]
    rcases hb with ⟨k17, rfl⟩ | ⟨k17, rfl⟩
    · refine And.intro (fun y => absurd y (by decide)) (fun _ => ?_)
      exact at64 (-1) _ (Or.inr (Or.inl ⟨rfl, k17⟩))
    · refine And.intro (fun _ => ?_) (fun y => absurd rfl y)
      exact at64 0 _ (Or.inr (Or.inr ⟨rfl, k16, k17⟩))
theorem mr_color {row : Nat} (S : SR T v g) (hr : row + 8 ≤ 480) : Ok 203 [vR 50, vI (row : Int)] (LL M) g (fun o Λ' g' => o = .inl none ∧ Λ' = LL M ∧ SR T (rcH v i j) g' ∧ ∃ g1 r, FrT g g1 ∧ g' = up g1 66 (row + 1) r ∧ (rcH v i j 4 10 = 0 → r = l2iI (tvH (ptH v 19)) ∧ 0 ≤ r ∧ r ≤ 3)) := by
  refine ok_body B_X9_color rfl (fun X hX => ?_)
  refine hX 30 [] 0 _ _ _ _ _ _ ?_
  refine Ok_mono (fun o' Λ' h2 hp => ?_) (m_word 15 19 ⟨by decide, by decide⟩ (by decide) S)
  obtain ⟨e1, e2, x, e3, hb⟩ := hp
  subst e1
  rw [e2, e3]
  refine Ok_mono (fun o' Λ' g1 hp => ?_) (m_passes (k := 19) S (by decide) (fun _ => bI_iff hb))
  obtain ⟨e1, e2, F1, S1⟩ := hp
  subst e1
  subst e2
  refine And.intro (show inR ((row : Int) + 1) from ⟨by omega, by omega⟩) ?_
  refine Ok_mono (fun o' Λ' g2 hp => ?_) (m_figure (a := 0) (b := 3) S1 ⟨by decide, by decide⟩)
  obtain ⟨e1, F2, S2, r, e3, rb, hr2⟩ := hp
  subst e1
  rw [e3]
  refine And.intro (show 0 ≤ (row : Int) + 1 ∧ (row : Int) + 1 < 480 from ⟨by omega, by omega⟩) ?_
  rw [show ((row : Int) + 1).toNat = row + 1 by omega]
  refine ⟨rfl, rfl, SR_tl (SR_up S2 ⟨by decide, by decide⟩), g2, r, FrT_tr F1 F2, rfl, fun y => ?_⟩
  unfold rcH at y
  rw [tl_4] at y
  exact hr2 y
end MWIDTH
