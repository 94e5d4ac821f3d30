/-! ===== the model: the line of a part ===== -/
theorem PtF_cast {tot : Nat → Int} {F : Int → Int} (h0 : F 0 = 0) (h1 : 0 ≤ F 1 ∧ F 1 ≤ 3) (h2 : 0 ≤ F 2 ∧ F 2 < rd tot 4 1) (h4 : 1 ≤ F 4 ∧ F 4 ≤ 30) (h5 : 0 ≤ F 5 ∧ F 5 < F 4) (h6 : F 6 = -1) (h7 : F 7 = 0) (h8 : F 8 = -1) : PtF tot F 0 :=
  ⟨by omega, ⟨fun _ => rfl, fun _ => h0⟩, h1, fun z => absurd z (by omega), fun _ => ⟨h2, h4, h5⟩, fun _ => h6, fun z => absurd h0 z, fun z => absurd z (by omega), fun _ => h7, Or.inl h8⟩
theorem PtF_shape {tot : Nat → Int} {F : Int → Int} {k : Int} (hk : k ≠ 0) (h0 : F 0 = 2) (h1 : 0 ≤ F 1 ∧ F 1 ≤ 3) (h2 : 0 ≤ F 2 ∧ F 2 < rd tot 4 1) (h4 : 1 ≤ F 4 ∧ F 4 ≤ 30) (h5 : 0 ≤ F 5 ∧ F 5 < F 4) (h6 : 0 ≤ F 6 ∧ F 6 < rd tot 4 1) (h7 : 1 ≤ F 7 ∧ F 7 ≤ 4) (h8 : F 8 = -1) : PtF tot F k :=
  ⟨by omega, ⟨fun z => absurd z (by omega), fun z => absurd z hk⟩, h1, fun z => absurd z (by omega), fun _ => ⟨h2, h4, h5⟩, fun z => absurd z (by omega), fun _ => h6, fun _ => h7, fun z => absurd h0 z, Or.inl h8⟩
theorem PtF_work {tot : Nat → Int} {F : Int → Int} {k : Int} (hk : k ≠ 0) (h0 : F 0 = 1) (h1 : 0 ≤ F 1 ∧ F 1 ≤ 3) (h2 : F 2 = -1) (h4 : F 4 = 0) (h5 : F 5 = 0) (h6 : 0 ≤ F 6 ∧ F 6 < rd tot 4 1) (h7 : F 7 = 0) (h8 : F 8 = -1 ∨ (0 ≤ F 8 ∧ F 8 < rd tot 4 2)) : PtF tot F k :=
  ⟨by omega, ⟨fun z => absurd z (by omega), fun z => absurd z hk⟩, h1, fun _ => ⟨h2, h4, h5⟩, fun z => absurd h0 z, fun z => absurd z (by omega), fun _ => h6, fun z => absurd z (by omega), fun _ => h7, by
    rcases h8 with y | y
    · exact Or.inl y
    · exact Or.inr ⟨h0, y⟩⟩
/-- the class, where the model reads a part -/
def plH (p n : Nat) (w : HP) : HP := if n = 0 then caH w (p : Int) else if w 4 9 = 11 ∨ w 4 9 = 12 then piS (p : Int) (n : Int) w else failH w 1 1
/-- the model's row behind the first stores -/
def row0 (g : HP) (r : Nat) (x : Int) : Int → Int := sF (sF (sF (sF (sF (sF (sF (fun s => rd (g 66) 480 (s + (r : Int))) 0 x) 2 (-1)) 3 0) 4 0) 5 (-1)) 6 0) 7 (-1)
def upRow (g : HP) (r : Nat) (x : Int) : HP := up (up (up (up (up (up (up g 66 (r + 0) x) 66 (r + 2) (-1)) 66 (r + 3) 0) 66 (r + 4) 0) 66 (r + 5) (-1)) 66 (r + 6) 0) 66 (r + 7) (-1)
theorem GC_row {g g1 : HP} {r : Nat} {x : Int} (hr : r + 8 ≤ 480) (F : FrT g g1) : GC g (upRow g1 r x) r (row0 g r x) := by
  have h0 : GC g g1 r (fun s => rd (g 66) 480 (s + (r : Int))) := fun q => by
    rw [F.1 66 (by decide)]
    split
    · show rd (g 66) 480 q = rd (g 66) 480 (q - (r : Int) + (r : Int))
      rw [show q - (r : Int) + (r : Int) = q by omega]
    · rfl
  exact GC_up hr (by decide) (GC_up hr (by decide) (GC_up hr (by decide) (GC_up hr (by decide) (GC_up hr (by decide) (GC_up hr (by decide) (GC_up hr (by decide) h0))))))
section FACTS
variable {g : HP} {row : Nat} {m P Q a b c r tot1 : Int} {tot : Nat → Int}
theorem gf_cast : GF (sF (sF (sF (sF (fct0 0) 2 m) 4 P) 5 Q) 1 r) (sF (sF (sF (sF (row0 g row 0) 2 m) 3 P) 4 Q) 1 r) := by
  unfold GF
  simp [sF, fct0, row0]
theorem gf_shape : GF (sF (sF (sF (sF (sF (sF (fct0 2) 2 m) 4 P) 5 Q) 6 a) 7 b) 1 r) (sF (sF (sF (sF (sF (sF (row0 g row 2) 2 m) 3 P) 4 Q) ((5 : Nat) : Int) a) ((6 : Nat) : Int) b) 1 r) := by
  unfold GF
  simp [sF, fct0, row0]
theorem gf_work : GF (sF (sF (fct0 1) 6 a) 1 r) (sF (sF (row0 g row 1) ((5 : Nat) : Int) a) 1 r) := by
  unfold GF
  simp [sF, fct0, row0]
theorem gf_workc : GF (sF (sF (sF (fct0 1) 6 a) 1 r) 8 c) (sF (sF (sF (row0 g row 1) ((5 : Nat) : Int) a) 1 r) ((7 : Nat) : Int) c) := by
  unfold GF
  simp [sF, fct0, row0]
theorem pf_cast (hr : 0 ≤ r ∧ r ≤ 3) (hm : 0 ≤ m ∧ m < rd tot 4 1) (hP : 1 ≤ P ∧ P ≤ 30) (hQ : 0 ≤ Q ∧ Q < P) : PtF tot (sF (sF (sF (sF (fct0 0) 2 m) 4 P) 5 Q) 1 r) 0 := by
  obtain ⟨F, eF⟩ : ∃ F, F = sF (sF (sF (sF (fct0 0) 2 m) 4 P) 5 Q) 1 r := ⟨_, rfl⟩
  have e0 : F 0 = 0 := by rw [eF]; simp [sF, fct0]
  have e1 : F 1 = r := by rw [eF]; simp [sF, fct0]
  have e2 : F 2 = m := by rw [eF]; simp [sF, fct0]
  have e4 : F 4 = P := by rw [eF]; simp [sF, fct0]
  have e5 : F 5 = Q := by rw [eF]; simp [sF, fct0]
  have e6 : F 6 = -1 := by rw [eF]; simp [sF, fct0]
  have e7 : F 7 = 0 := by rw [eF]; simp [sF, fct0]
  have e8 : F 8 = -1 := by rw [eF]; simp [sF, fct0]
  rw [← eF]
  exact PtF_cast e0 (by rw [e1]; exact hr) (by rw [e2]; exact hm) (by rw [e4]; exact hP) (by rw [e4, e5]; exact hQ) e6 e7 e8
theorem pf_shape {k : Int} (hk : k ≠ 0) (hr : 0 ≤ r ∧ r ≤ 3) (hm : 0 ≤ m ∧ m < rd tot 4 1) (hP : 1 ≤ P ∧ P ≤ 30) (hQ : 0 ≤ Q ∧ Q < P) (ha : 0 ≤ a ∧ a < rd tot 4 1) (hb : 1 ≤ b ∧ b ≤ 4) : PtF tot (sF (sF (sF (sF (sF (sF (fct0 2) 2 m) 4 P) 5 Q) 6 a) 7 b) 1 r) k := by
  obtain ⟨F, eF⟩ : ∃ F, F = sF (sF (sF (sF (sF (sF (fct0 2) 2 m) 4 P) 5 Q) 6 a) 7 b) 1 r := ⟨_, rfl⟩
  have e0 : F 0 = 2 := by rw [eF]; simp [sF, fct0]
  have e1 : F 1 = r := by rw [eF]; simp [sF, fct0]
  have e2 : F 2 = m := by rw [eF]; simp [sF, fct0]
  have e4 : F 4 = P := by rw [eF]; simp [sF, fct0]
  have e5 : F 5 = Q := by rw [eF]; simp [sF, fct0]
  have e6 : F 6 = a := by rw [eF]; simp [sF, fct0]
  have e7 : F 7 = b := by rw [eF]; simp [sF, fct0]
  have e8 : F 8 = -1 := by rw [eF]; simp [sF, fct0]
  rw [← eF]
  exact PtF_shape hk e0 (by rw [e1]; exact hr) (by rw [e2]; exact hm) (by rw [e4]; exact hP) (by rw [e4, e5]; exact hQ) (by rw [e6]; exact ha) (by rw [e7]; exact hb) e8
theorem pf_work {k : Int} (hk : k ≠ 0) (hr : 0 ≤ r ∧ r ≤ 3) (ha : 0 ≤ a ∧ a < rd tot 4 1) : PtF tot (sF (sF (fct0 1) 6 a) 1 r) k := by
  obtain ⟨F, eF⟩ : ∃ F, F = sF (sF (fct0 1) 6 a) 1 r := ⟨_, rfl⟩
  have e0 : F 0 = 1 := by rw [eF]; simp [sF, fct0]
  have e1 : F 1 = r := by rw [eF]; simp [sF, fct0]
  have e2 : F 2 = -1 := by rw [eF]; simp [sF, fct0]
  have e4 : F 4 = 0 := by rw [eF]; simp [sF, fct0]
  have e5 : F 5 = 0 := by rw [eF]; simp [sF, fct0]
  have e6 : F 6 = a := by rw [eF]; simp [sF, fct0]
  have e7 : F 7 = 0 := by rw [eF]; simp [sF, fct0]
  have e8 : F 8 = -1 := by rw [eF]; simp [sF, fct0]
  rw [← eF]
  exact PtF_work hk e0 (by rw [e1]; exact hr) e2 e4 e5 (by rw [e6]; exact ha) e7 (Or.inl e8)
theorem pf_workc {k : Int} (hk : k ≠ 0) (hr : 0 ≤ r ∧ r ≤ 3) (ha : 0 ≤ a ∧ a < rd tot 4 1) (hc : 0 ≤ c ∧ c < rd tot 4 2) : PtF tot (sF (sF (sF (fct0 1) 6 a) 1 r) 8 c) k := by
  obtain ⟨F, eF⟩ : ∃ F, F = sF (sF (sF (fct0 1) 6 a) 1 r) 8 c := ⟨_, rfl⟩
  have e0 : F 0 = 1 := by rw [eF]; simp [sF, fct0]
  have e1 : F 1 = r := by rw [eF]; simp [sF, fct0]
  have e2 : F 2 = -1 := by rw [eF]; simp [sF, fct0]
  have e4 : F 4 = 0 := by rw [eF]; simp [sF, fct0]
  have e5 : F 5 = 0 := by rw [eF]; simp [sF, fct0]
  have e6 : F 6 = a := by rw [eF]; simp [sF, fct0]
  have e7 : F 7 = 0 := by rw [eF]; simp [sF, fct0]
  have e8 : F 8 = c := by rw [eF]; simp [sF, fct0]
  rw [← eF]
  exact PtF_work hk e0 (by rw [e1]; exact hr) e2 e4 e5 (by rw [e6]; exact ha) e7 (Or.inr (by rw [e8]; exact hc))
end FACTS
section MPART
variable {M : List CT} {T : Nat} {w g : HP}
/-- the part begins in both -/
theorem PG_0 {p n : Nat} {k x : Int} {g1 : HP} (S : SR T (ptH w k) g1) (z : ptH w k 4 10 = 0) (F : FrT g g1) (hp : p < 6 ∧ n < 10) (h11 : rd (w 11) 6 (p : Int) = (n : Int)) (ez : rd (w 14) 132 (72 + (p : Int) * 10 + (n : Int)) = 0) :
    PG T w g (spH (ptH w k) (p : Int) x) (up (upRow g1 (8 * (10 * p + n)) x) 67 (52 + 10 * p + n) 0) p n (fct0 x) (row0 g (8 * (10 * p + n)) x) 0 0 := by
  obtain ⟨c12, c11⟩ := sp_cells (w := ptH w k) (i := (p : Int)) (n := (n : Int)) (x := x) z (by rw [pt_cell (by decide)]; exact h11) ⟨⟨by omega, by omega⟩, by omega, by omega⟩
  have S1 : SR T (spH (ptH w k) (p : Int) x) g1 := SR_cls S (sp_cell (by decide) (by decide)) (sp_cell (by decide) (by decide)) sp_4 (fun q h0 h1 => sp_cell (by omega) (by omega))
  have u67 : upRow g1 (8 * (10 * p + n)) x 67 = g1 67 := by
    unfold upRow
    rw [up_cell (by decide), up_cell (by decide), up_cell (by decide), up_cell (by decide), up_cell (by decide), up_cell (by decide), up_cell (by decide)]
  refine ⟨?_, ?_, fun q => ?_, fun q => ?_, fun _ => ⟨fun q => ?_, fun q => ?_, fun c h0 h1 => ?_, fun q => ?_⟩⟩
  · unfold upRow
    exact SR_up (SR_up (SR_up (SR_up (SR_up (SR_up (SR_up (SR_up S1 ⟨by decide, by decide⟩) ⟨by decide, by decide⟩) ⟨by decide, by decide⟩) ⟨by decide, by decide⟩) ⟨by decide, by decide⟩) ⟨by decide, by decide⟩) ⟨by decide, by decide⟩) ⟨by decide, by decide⟩
  · unfold upRow
    exact FrP_tr (FrP_tr (FrP_tr (FrP_tr (FrP_tr (FrP_tr (FrP_tr (FrP_tr (FrP_T F) FrP_up) FrP_up) FrP_up) FrP_up) FrP_up) FrP_up) FrP_up) FrP_ue
  · rw [up_cell (by decide)]
    exact GC_row (by omega) F q
  · rw [rd_up (by omega), u67, F.1 67 (by decide)]
  · rw [c12 q, pt_cell (by decide)]
  · rw [sp_cell (by decide) (by decide), pt_cell (by decide)]
    split
    · next y => rw [y]; exact ez
    · rfl
  · rw [sp_cell (by omega) (by omega), pt_cell (by omega)]
  · rw [c11 q, pt_cell (by decide)]
theorem mr_partLine {p n : Nat} (S : SR T w g) (z : w 4 10 = 0) (hp : p < 6) (hn : n ≤ 10) (q28 : g 50 28 = (p : Int)) (N : NmR w g) (c1 : g 50 26 = rd (w 7) 4 1) (c2 : g 50 27 = rd (w 7) 4 2) (h11 : rd (w 11) 6 (p : Int) = (n : Int)) (ez : n < 10 → rd (w 14) 132 (72 + (p : Int) * 10 + (n : Int)) = 0) :
    Ok 204 [vR 50, vI (n : Int)] (LL M) g (fun o Λ' g' => o = .inl none ∧ Λ' = LL M ∧ FrP g g' ∧ SR T (plH p n w) g' ∧ (plH p n w 4 10 = 0 → n < 10 ∧ ∃ F G E, PG T w g (plH p n w) g' p n F G E E ∧ GF F G ∧ PtF (w 7) F (n : Int) ∧ -999 ≤ E ∧ E ≤ 999)) := by
  obtain ⟨row, erow⟩ : ∃ row : Nat, row = 8 * (10 * p + n) := ⟨_, rfl⟩
  obtain ⟨ease, eease⟩ : ∃ ease : Nat, ease = 52 + 10 * p + n := ⟨_, rfl⟩
  refine ok_body B_X9_partLine rfl (fun X hX => ?_)
  /- the end -/
  have at298 : ∀ (K : Int) (w4 g4 : HP) (F G : Int → Int) (E : Int), n < 10 → PG T w g w4 g4 p n F G E E → plH p n w = ptH w4 3 → (w4 4 10 = 0 → GF F G ∧ PtF (w 7) F (n : Int) ∧ -999 ≤ E ∧ E ≤ 999) → X 298 [vR 50, vI (n : Int), vI K, vI (row : Int), vI (ease : Int)] [] (LL M) g4 0 0 := by
    intro K w4 g4 F G E n10 P ew R
    refine hX 20 [] 298 _ _ _ _ _ _ ?_
    refine Ok_mono (fun o' Λ' g5 hp => ?_) (m_semicolon P.1)
    obtain ⟨e1, e2, F5, S5⟩ := hp
    subst e1
    subst e2
    refine ⟨rfl, rfl, FrP_tr P.2.1 (FrP_T F5), by rw [ew]; exact S5, fun y => ⟨n10, F, G, E, ?_, ?_⟩⟩
    · rw [ew]
      exact PG_pt P S5 F5
    · rw [ew] at y
      exact R (pt_10 y).1
  /- the color -/
  have colr : ∀ (w3 g3 g5 g6 : HP) (r : Int) (F G : Int → Int) (E : Int), n < 10 → PG T w g w3 g3 p n F G E E → SR T (rcH w3 (p : Int) (n : Int)) g5 → FrT g3 g6 → g5 = up g6 66 (row + 1) r → (rcH w3 (p : Int) (n : Int) 4 10 = 0 → r = l2iI (tvH (ptH w3 19)) ∧ 0 ≤ r ∧ r ≤ 3) → PG T w g (rcH w3 (p : Int) (n : Int)) g5 p n (sF F 1 r) (sF G 1 r) E E := by
    intro w3 g3 g5 g6 r F G E n10 P S5 F6 e5 hr
    rw [e5, erow] at S5 ⊢
    refine PG_vt (w1 := numH (ptH w3 19) 0 3) (x := l2iI (tvH (ptH w3 19))) (k := 1) (s := 1) ⟨hp, n10⟩ P F6 (fun y => ?_) (by decide) ⟨by decide, by decide⟩ S5
    have y2 : rcH w3 (p : Int) (n : Int) 4 10 = 0 := by unfold rcH; rw [tl_4]; exact y
    exact ⟨⟨(pt_10 (num_10 y)).1, fun c h0 h1 => by rw [num_cell (by omega), pt_cell (by omega)]⟩, (hr y2).1⟩
  have at256 : ∀ (K : Int) (w3 g3 : HP) (F G : Int → Int) (E : Int), K ≠ 1 → n < 10 → PG T w g w3 g3 p n F G E E → plH p n w = ptH (rcH w3 (p : Int) (n : Int)) 3 → (w3 4 10 = 0 → ∀ r, 0 ≤ r → r ≤ 3 → GF (sF F 1 r) (sF G 1 r) ∧ PtF (w 7) (sF F 1 r) (n : Int) ∧ -999 ≤ E ∧ E ≤ 999) → X 256 [vR 50, vI (n : Int), vI K, vI (row : Int), vI (ease : Int)] [] (LL M) g3 0 0 := by
    intro K w3 g3 F G E k1 n10 P ew R
    refine hX 20 [261] 256 _ _ _ _ _ _ ?_
    refine Ok_mono (fun o' Λ' g5 hp => ?_) (mr_color (i := (p : Int)) (j := (n : Int)) (row := row) P.1 (by omega))
    obtain ⟨e1, e2, S5, g6, r, F6, e5, hr⟩ := hp
    subst e1
    subst e2
    have P5 := colr w3 g3 g5 g6 r F G E n10 P S5 F6 e5 hr
    refine hX 20 [298] 261 _ _ _ _ _ _ ?_
    refine And.intro (fun _ => ?_) (fun c => absurd c k1)
    exact at298 K _ g5 _ _ E n10 P5 ew (fun y => R (rc_10 y) r (hr y).2.1 (hr y).2.2)
  /- what the part begins with -/
  have st110 : ∀ (K : Int) (g1 : HP) (j4 : PV), FrT g g1 → n < 10 → X 183 [vR 50, vI (n : Int), vI K, vI (row : Int), vI (ease : Int)] [] (LL M) (up (upRow g1 row K) 67 ease 0) 0 0 → X 83 [vR 50, vI (n : Int), vI K, vU, j4] [] (LL M) g1 0 0 := by
    intro K g1 j4 F1 n10 nx
    have q : g1 50 28 = (p : Int) := (F1.2 28 (by decide)).trans q28
    refine hX 40 [96] 83 _ _ _ _ _ _ ?_
    refine And.intro (show inR (10 * g1 50 28) from ⟨by omega, by omega⟩) ?_
    refine And.intro (show inR (10 * g1 50 28 + (n : Int)) from ⟨by omega, by omega⟩) ?_
    refine And.intro (show inR (8 * (10 * g1 50 28 + (n : Int))) from ⟨by omega, by omega⟩) ?_
    rw [show 8 * (10 * g1 50 28 + (n : Int)) = (row : Int) by omega]
    show X 96 [_, _, _, vI (row : Int), _] _ _ _ _ _
    refine hX 40 [110] 96 _ _ _ _ _ _ ?_
    refine And.intro (show inR (10 * g1 50 28) from ⟨by omega, by omega⟩) ?_
    refine And.intro (show inR (52 + 10 * g1 50 28) from ⟨by omega, by omega⟩) ?_
    refine And.intro (show inR (52 + 10 * g1 50 28 + (n : Int)) from ⟨by omega, by omega⟩) ?_
    rw [show 52 + 10 * g1 50 28 + (n : Int) = (ease : Int) by omega]
    show X 110 [_, _, _, _, vI (ease : Int)] _ _ _ _ _
    refine hX 80 [183] 110 _ _ _ _ _ _ ?_
    refine And.intro (show inR ((row : Int) + 0) from ⟨by omega, by omega⟩) ?_
    refine And.intro (show 0 ≤ (row : Int) + 0 ∧ (row : Int) + 0 < 480 from ⟨by omega, by omega⟩) ?_
    refine And.intro (show inR ((row : Int) + 2) from ⟨by omega, by omega⟩) ?_
    refine And.intro (show 0 ≤ (row : Int) + 2 ∧ (row : Int) + 2 < 480 from ⟨by omega, by omega⟩) ?_
    refine And.intro (show inR ((row : Int) + 3) from ⟨by omega, by omega⟩) ?_
    refine And.intro (show 0 ≤ (row : Int) + 3 ∧ (row : Int) + 3 < 480 from ⟨by omega, by omega⟩) ?_
    refine And.intro (show inR ((row : Int) + 4) from ⟨by omega, by omega⟩) ?_
    refine And.intro (show 0 ≤ (row : Int) + 4 ∧ (row : Int) + 4 < 480 from ⟨by omega, by omega⟩) ?_
    refine And.intro (show inR ((row : Int) + 5) from ⟨by omega, by omega⟩) ?_
    refine And.intro (show 0 ≤ (row : Int) + 5 ∧ (row : Int) + 5 < 480 from ⟨by omega, by omega⟩) ?_
    refine And.intro (show inR ((row : Int) + 6) from ⟨by omega, by omega⟩) ?_
    refine And.intro (show 0 ≤ (row : Int) + 6 ∧ (row : Int) + 6 < 480 from ⟨by omega, by omega⟩) ?_
    refine And.intro (show inR ((row : Int) + 7) from ⟨by omega, by omega⟩) ?_
    refine And.intro (show 0 ≤ (row : Int) + 7 ∧ (row : Int) + 7 < 480 from ⟨by omega, by omega⟩) ?_
    refine And.intro (show 0 ≤ (ease : Int) ∧ (ease : Int) < 132 from ⟨by omega, by omega⟩) ?_
    rw [show ((row : Int) + 0).toNat = row + 0 by omega, show ((row : Int) + 2).toNat = row + 2 by omega, show ((row : Int) + 3).toNat = row + 3 by omega, show ((row : Int) + 4).toNat = row + 4 by omega, show ((row : Int) + 5).toNat = row + 5 by omega, show ((row : Int) + 6).toNat = row + 6 by omega, show ((row : Int) + 7).toNat = row + 7 by omega, show ((ease : Int)).toNat = ease by omega]
    exact nx
  /- wrong already -/
  have bad71 : ∀ (K : Int) (w1 g1 : HP) (j3 j4 : PV), SR T w1 g1 → FrT g g1 → w1 4 10 ≠ 0 → plH p n w = w1 → X 71 [vR 50, vI (n : Int), vI K, j3, j4] [] (LL M) g1 0 0 := by
    intro K w1 g1 j3 j4 S1 F1 z1 ew
    refine hX 30 [] 71 _ _ _ _ _ _ ?_
    refine Ok_rt (m_isWrong S1) ?_
    rw [if_neg z1]
    refine And.intro (fun y => absurd y (by decide)) (fun _ => ?_)
    exact ⟨rfl, rfl, FrP_T F1, by rw [ew]; exact S1, fun y => absurd y (by rw [ew]; exact z1)⟩
  have bad60 : ∀ (K : Int) (w1 g1 : HP) (j3 j4 : PV), SR T w1 g1 → FrT g g1 → w1 4 10 ≠ 0 → plH p n w = w1 → X 60 [vR 50, vI (n : Int), vI K, j3, j4] [] (LL M) g1 0 0 := by
    intro K w1 g1 j3 j4 S1 F1 z1 ew
    refine hX 30 [71] 60 _ _ _ _ _ _ ?_
    refine And.intro (fun _ => bad71 K w1 g1 _ _ S1 F1 z1 ew) (fun _ => ?_)
    refine Ok_rt (m_fails S1) ?_
    have H2 := SR_fails (c := 5) (x := 1) S1 (by decide) (by decide)
    rw [fail_er z1] at H2
    exact bad71 K w1 _ _ _ H2 (FrT_tr F1 flG_fr) z1 ew
  have H1 := SR_fails (c := 1) (x := 1) S (by decide) (by decide)
  have z1 : failH w 1 1 4 10 ≠ 0 := fun u => absurd (fail_10 (by decide) u).2 (by decide)
  /- the names that a part asks -/
  have ask : ∀ (w3 g3 : HP) (F G : Int → Int) (A B : Int), PG T w g w3 g3 p n F G A B → w3 4 10 = 0 → NmR w3 g3 ∧ g3 50 26 = rd (w3 7) 4 1 ∧ g3 50 27 = rd (w3 7) 4 2 ∧ w3 7 = w 7 := by
    intro w3 g3 F G A B P y
    have d := P.2.2.2.2 y
    have e7 := d.2.2.1 7 (by decide) (by decide)
    refine ⟨NmR_cg N (d.2.2.1 6 (by decide) (by decide)) e7 (P.2.1.1 68 (by decide) (by decide) (by decide)), ?_, ?_, e7⟩
    · rw [e7, P.2.1.2 26 (by decide)]; exact c1
    · rw [e7, P.2.1.2 27 (by decide)]; exact c2
  have tok : ∀ k : Int, w 4 9 = k → k ≠ 1 → ptH w k = passH w ∧ ptH w k 4 10 = 0 := fun k hk k1 => by
    have e : ptH w k = passH w := by unfold ptH; rw [if_pos hk, fail_0]
    exact ⟨e, by rw [e, pass_10]; exact z⟩
  have jV : ∀ k : Int, ptH w k 4 10 = 0 → spV (ptH w k) (p : Int) = (n : Int) := fun k y => by
    unfold spV
    rw [if_pos y, rdA_cg (pt_cell (by decide))]
    exact h11
  by_cases n0 : n = 0
  · /- the cast -/
    have n10 : n < 10 := by omega
    have ePL : plH p n w = caH w (p : Int) := by unfold plH; rw [if_pos n0]
    refine hX 30 [23] 0 _ _ _ _ _ _ ?_
    refine And.intro (fun c => absurd (show (n : Int) = 0 by omega) c) (fun _ => ?_)
    show X 23 [_, _, vI 0, _, _] _ _ _ _ _
    refine hX 30 [41] 23 _ _ _ _ _ _ ?_
    refine And.intro (fun c => absurd rfl c) (fun _ => ?_)
    refine Ok_mono (fun o' Λ' h2 hp => ?_) (m_word 6 10 ⟨by decide, by decide⟩ (by decide) S)
    obtain ⟨e1, e2, x, e3, hb⟩ := hp
    subst e1
    rw [e2, e3]
    rcases hb with ⟨k10, rfl⟩ | ⟨k10, rfl⟩
    · refine And.intro (fun _ => ?_) (fun y => absurd y (by decide))
      have tk := tok 10 k10 (by decide)
      refine hX 30 [60] 41 _ _ _ _ _ _ ?_
      refine And.intro (fun _ => ?_) (fun c => absurd c (by decide))
      refine hX 30 [71] 60 _ _ _ _ _ _ ?_
      refine And.intro (fun _ => ?_) (fun c => absurd (show (n : Int) = 10 from c) (by omega))
      refine hX 30 [83] 71 _ _ _ _ _ _ ?_
      refine Ok_rt (m_isWrong S) ?_
      rw [if_pos z]
      refine And.intro (fun _ => ?_) (fun y => absurd rfl y)
      refine Ok_mono (fun o' Λ' g1 hp => ?_) (m_tokenP S z (by omega))
      obtain ⟨e1, e2, F1, S1⟩ := hp
      subst e1
      subst e2
      rw [← tk.1] at S1
      refine st110 0 g1 _ F1 n10 ?_
      have P := PG_0 (x := 0) (p := p) (n := n) S1 tk.2 F1 ⟨hp, n10⟩ h11 (ez n10)
      obtain ⟨g2, eg2⟩ : ∃ g2 : HP, g2 = up (upRow g1 (8 * (10 * p + n)) 0) 67 (52 + 10 * p + n) 0 := ⟨_, rfl⟩
      rw [erow, eease, ← eg2]
      rw [← eg2] at P
      have eC : caH w (p : Int) = ptH (rcH (wdH (spH (ptH w 10) (p : Int) 0) (p : Int) (n : Int)) (p : Int) (n : Int)) 3 := by
        unfold caH caJ caB
        rw [jV 10 tk.2]
      have zs : spH (ptH w 10) (p : Int) 0 4 10 = 0 := by rw [sp_4]; exact tk.2
      have ak := ask _ _ _ _ _ _ P zs
      rw [← erow, ← eease]
      refine hX 30 [195] 183 _ _ _ _ _ _ ?_
      refine And.intro (fun c => absurd c (by decide)) (fun _ => ?_)
      refine Ok_mono (fun o' Λ' g3 hp => ?_) (mr_width (i := (p : Int)) (j := (n : Int)) (row := row) (ease := ease) P.1 (by omega) (by omega) ⟨⟨by omega, by omega⟩, by omega, by omega⟩ (fun _ => ⟨ak.1, ak.2.1⟩))
      obtain ⟨e1, e2, S3, m, P', Q, E, C, R⟩ := hp
      subst e1
      subst e2
      rw [erow, eease] at C
      have P3 := PG_wd ⟨hp, n10⟩ P S3 C (fun y => (R y).1)
      refine hX 30 [210] 195 _ _ _ _ _ _ ?_
      refine And.intro (fun _ => ?_) (fun c => absurd c (by decide))
      refine hX 30 [226] 210 _ _ _ _ _ _ ?_
      refine And.intro (fun _ => ?_) (fun c => absurd rfl c)
      refine hX 30 [256] 226 _ _ _ _ _ _ ?_
      refine And.intro (fun _ => ?_) (fun c => absurd c (by decide))
      refine at256 0 _ g3 _ _ E (by decide) n10 P3 (ePL.trans eC) (fun y r r0 r3 => ?_)
      obtain ⟨-, hm, hP, hQ, hE⟩ := R y
      rw [ak.2.2.2] at hm
      have n0' : (n : Int) = 0 := by omega
      rw [n0']
      exact ⟨gf_cast, pf_cast ⟨r0, r3⟩ hm hP hQ, hE⟩
    · refine And.intro (fun y => absurd rfl y) (fun _ => ?_)
      have eF : plH p n w = failH w 1 1 := by
        have e : ptH w 10 = failH w 1 1 := by
          unfold ptH
          rw [if_neg k10, pass_er z1]
        rw [ePL]
        unfold caH caB
        rw [e, sp_er z1, wd_er z1, rc_er z1, pt_er z1]
      refine Ok_rt (m_fails S) ?_
      refine hX 30 [60] 41 _ _ _ _ _ _ ?_
      refine And.intro (fun _ => ?_) (fun c => absurd c (by decide))
      exact bad60 0 _ _ _ _ H1 flG_fr z1 eF
  · have n0' : (n : Int) ≠ 0 := by omega
    /- ten parts already -/
    have full : ∀ (K : Int) (j3 j4 : PV), (w 4 9 = 11 ∨ w 4 9 = 12) → n = 10 → X 60 [vR 50, vI (n : Int), vI K, j3, j4] [] (LL M) g 0 0 := by
      intro K j3 j4 hk e10
      have H5 := SR_fails (c := 5) (x := 1) S (by decide) (by decide)
      have z5 : failH w 1 5 4 10 ≠ 0 := fun u => absurd (fail_10 (by decide) u).2 (by decide)
      refine hX 30 [71] 60 _ _ _ _ _ _ ?_
      refine And.intro (fun c => absurd (show (n : Int) = 10 by omega) c) (fun _ => ?_)
      refine Ok_rt (m_fails S) ?_
      refine bad71 K _ _ _ _ H5 flG_fr z5 ?_
      have eF : piF (n : Int) w = failH w 1 5 := by unfold piF; rw [if_pos (by omega)]
      unfold plH
      rw [if_neg n0, if_pos hk]
      unfold piS
      rw [eF]
      split
      · exact wo_er z5
      · exact sh_er z5
    have eF : n < 10 → piF (n : Int) w = w := fun n10 => by unfold piF; rw [if_neg (by omega), fail_0]
    refine hX 30 [8] 0 _ _ _ _ _ _ ?_
    refine And.intro (fun _ => ?_) (fun c => absurd c n0')
    refine hX 30 [21, 22] 8 _ _ _ _ _ _ ?_
    refine Ok_mono (fun o' Λ' h2 hp => ?_) (m_word 7 11 ⟨by decide, by decide⟩ (by decide) S)
    obtain ⟨e1, e2, x, e3, hb⟩ := hp
    subst e1
    rw [e2, e3]
    rcases hb with ⟨k11, rfl⟩ | ⟨k11, rfl⟩
    · /- a work -/
      refine And.intro (fun y => absurd y (by decide)) (fun _ => ?_)
      refine hX 30 [23] 22 _ _ _ _ _ _ ?_
      show X 23 [_, _, vI 1, _, _] _ _ _ _ _
      refine hX 30 [41] 23 _ _ _ _ _ _ ?_
      refine And.intro (fun _ => ?_) (fun c => absurd c (by decide))
      refine hX 30 [60] 41 _ _ _ _ _ _ ?_
      refine And.intro (fun _ => ?_) (fun c => absurd c (by decide))
      by_cases n10 : n < 10
      · have tk := tok 11 k11 (by decide)
        have ePL : plH p n w = woH w (p : Int) := by
          unfold plH piS
          rw [if_neg n0, if_pos (Or.inl k11), eF n10, if_pos k11]
        refine hX 30 [71] 60 _ _ _ _ _ _ ?_
        refine And.intro (fun _ => ?_) (fun c => absurd (show (n : Int) = 10 from c) (by omega))
        refine hX 30 [83] 71 _ _ _ _ _ _ ?_
        refine Ok_rt (m_isWrong S) ?_
        rw [if_pos z]
        refine And.intro (fun _ => ?_) (fun y => absurd rfl y)
        refine Ok_mono (fun o' Λ' g1 hp => ?_) (m_tokenP S z (by omega))
        obtain ⟨e1, e2, F1, S1⟩ := hp
        subst e1
        subst e2
        rw [← tk.1] at S1
        refine st110 1 g1 _ F1 n10 ?_
        have P := PG_0 (x := 1) (p := p) (n := n) S1 tk.2 F1 ⟨hp, n10⟩ h11 (ez n10)
        obtain ⟨g2, eg2⟩ : ∃ g2 : HP, g2 = up (upRow g1 (8 * (10 * p + n)) 1) 67 (52 + 10 * p + n) 0 := ⟨_, rfl⟩
        rw [erow, eease, ← eg2]
        rw [← eg2] at P
        have eC : woC w (p : Int) = rcH (tlH (knH (spH (ptH w 11) (p : Int) 1) 1) (p : Int) (n : Int) 6 (numN (spH (ptH w 11) (p : Int) 1) 1 (tvH (spH (ptH w 11) (p : Int) 1)))) (p : Int) (n : Int) := by
          unfold woC woJ woB
          rw [jV 11 tk.2]
        have eJ : woJ w (p : Int) = (n : Int) := jV 11 tk.2
        have zs : spH (ptH w 11) (p : Int) 1 4 10 = 0 := by rw [sp_4]; exact tk.2
        have ak := ask _ _ _ _ _ _ P zs
        rw [← erow, ← eease]
        refine hX 30 [195] 183 _ _ _ _ _ _ ?_
        refine And.intro (fun _ => ?_) (fun c => absurd rfl c)
        refine hX 30 [210] 195 _ _ _ _ _ _ ?_
        refine And.intro (fun _ => ?_) (fun c => absurd c (by decide))
        refine hX 30 [226] 210 _ _ _ _ _ _ ?_
        refine And.intro (fun c => absurd c (by decide)) (fun _ => ?_)
        refine And.intro (show inR ((row : Int) + 5) from ⟨by omega, by omega⟩) ?_
        refine Ok_mono (fun o' Λ' g3 hp => ?_) (m_measureHere P.1 (fun _ => ⟨ak.1, ak.2.1⟩))
        obtain ⟨e1, F3, S3, r3, e3, rb3, hr3⟩ := hp
        subst e1
        rw [e3]
        refine And.intro (show 0 ≤ (row : Int) + 5 ∧ (row : Int) + 5 < 480 from ⟨by omega, by omega⟩) ?_
        rw [show ((row : Int) + 5).toNat = 8 * (10 * p + n) + 5 by omega]
        have P4 := PG_vt (w1 := knH (spH (ptH w 11) (p : Int) 1) 1) (x := numN (spH (ptH w 11) (p : Int) 1) 1 (tvH (spH (ptH w 11) (p : Int) 1))) (r := r3) (k := 6) (s := 5) ⟨hp, n10⟩ P F3 (fun y => ⟨⟨kn_10 y, fun c h0 h1 => kn_cell (by omega)⟩, (hr3 y).1⟩) (by decide) ⟨by decide, by decide⟩ (SR_tl (SR_up S3 ⟨by decide, by decide⟩))
        refine hX 30 [256] 226 _ _ _ _ _ _ ?_
        refine And.intro (fun _ => ?_) (fun c => absurd c (by decide))
        refine hX 20 [261] 256 _ _ _ _ _ _ ?_
        refine Ok_mono (fun o' Λ' g5 hp => ?_) (mr_color (i := (p : Int)) (j := (n : Int)) (row := row) P4.1 (by omega))
        obtain ⟨e1, e2, S5, g6, r, F6, e5, hr⟩ := hp
        subst e1
        subst e2
        have P5 := colr _ _ g5 g6 r _ _ 0 n10 P4 S5 F6 e5 hr
        rw [← eC] at P5 S5 hr
        have hm : woC w (p : Int) 4 10 = 0 → (0 ≤ r ∧ r ≤ 3) ∧ 0 ≤ r3 ∧ r3 < rd (w 7) 4 1 := fun y => by
          refine ⟨(hr y).2, ?_⟩
          rw [eC] at y
          have y2 := rc_10 y
          rw [tl_4] at y2
          have := (hr3 y2).2
          rw [ak.2.2.2] at this
          exact this
        refine hX 30 [275, 298] 261 _ _ _ _ _ _ ?_
        refine And.intro (fun c => absurd rfl c) (fun _ => ?_)
        refine Ok_mono (fun o' Λ' h2 hp => ?_) (m_word 16 20 ⟨by decide, by decide⟩ (by decide) S5)
        obtain ⟨e1, e2, x, e3, hb⟩ := hp
        subst e1
        rw [e2, e3]
        rcases hb with ⟨k20, rfl⟩ | ⟨k20, rfl⟩
        · refine And.intro (fun y => absurd y (by decide)) (fun _ => ?_)
          have zc := SR_kz S5 k20 (by decide)
          have h4 := hm zc
          refine hX 30 [298] 275 _ _ _ _ _ _ ?_
          refine Ok_mono (fun o' Λ' g7 hp => ?_) (m_tokenP S5 zc (by omega))
          obtain ⟨e1, e2, F7, S7⟩ := hp
          subst e1
          subst e2
          have P7 := PG_step P5 S7 F7 (fun _ => ⟨zc, fun c h0 h1 => passH_cell (by omega)⟩)
          have z7 : passH (woC w (p : Int)) 4 10 = 0 := by rw [pass_10]; exact zc
          have ak7 := ask _ _ _ _ _ _ P7 z7
          refine And.intro (show inR ((row : Int) + 7) from ⟨by omega, by omega⟩) ?_
          refine Ok_mono (fun o' Λ' g8 hp => ?_) (m_namedOf (i := 2) (f := 14) (c := g7 50 27) S7 (by decide) (fun _ => ⟨ak7.1, rfl, ak7.2.2.1⟩))
          obtain ⟨e1, F8, S8, r8, e3, rb8, hr8⟩ := hp
          subst e1
          rw [e3]
          refine And.intro (show 0 ≤ (row : Int) + 7 ∧ (row : Int) + 7 < 480 from ⟨by omega, by omega⟩) ?_
          rw [show ((row : Int) + 7).toNat = 8 * (10 * p + n) + 7 by omega]
          have P8 := PG_vt (w1 := knH (passH (woC w (p : Int))) 2) (x := numN (passH (woC w (p : Int))) 2 (tvH (passH (woC w (p : Int))))) (r := r8) (k := 8) (s := 7) ⟨hp, n10⟩ P7 F8 (fun y => ⟨⟨z7, fun c h0 h1 => kn_cell (by omega)⟩, (hr8 y).1⟩) (by decide) ⟨by decide, by decide⟩ (SR_tl (SR_up S8 ⟨by decide, by decide⟩))
          refine at298 1 _ _ _ _ 0 n10 P8 ?_ (fun y => ?_)
          · rw [ePL]
            unfold woH woD
            rw [if_pos k20, eJ]
          · rw [tl_4] at y
            have h8 := (hr8 y).2
            rw [ak7.2.2.2] at h8
            exact ⟨gf_workc, pf_workc n0' h4.1 h4.2 h8, by decide, by decide⟩
        · refine And.intro (fun _ => ?_) (fun y => absurd rfl y)
          refine at298 1 _ _ _ _ 0 n10 P5 ?_ (fun y => ?_)
          · rw [ePL]
            unfold woH woD
            rw [if_neg k20]
          · have h4 := hm y
            exact ⟨gf_work, pf_work n0' h4.1 h4.2, by decide, by decide⟩
      · exact full 1 _ _ (Or.inl k11) (by omega)
    · /- a shape, or no part -/
      refine And.intro (fun _ => ?_) (fun y => absurd rfl y)
      refine hX 30 [22] 21 _ _ _ _ _ _ ?_
      refine hX 30 [23] 22 _ _ _ _ _ _ ?_
      show X 23 [_, _, vI 2, _, _] _ _ _ _ _
      refine hX 30 [41] 23 _ _ _ _ _ _ ?_
      refine And.intro (fun _ => ?_) (fun c => absurd c (by decide))
      refine hX 30 [60] 41 _ _ _ _ _ _ ?_
      refine And.intro (fun c => absurd rfl c) (fun _ => ?_)
      refine Ok_mono (fun o' Λ' h2 hp => ?_) (m_word 8 12 ⟨by decide, by decide⟩ (by decide) S)
      obtain ⟨e1, e2, x, e3, hb⟩ := hp
      subst e1
      rw [e2, e3]
      rcases hb with ⟨k12, rfl⟩ | ⟨k12, rfl⟩
      · refine And.intro (fun _ => ?_) (fun y => absurd y (by decide))
        by_cases n10 : n < 10
        · have tk := tok 12 k12 (by decide)
          have ePL : plH p n w = shH w (p : Int) := by
            unfold plH piS
            rw [if_neg n0, if_pos (Or.inr k12), eF n10, if_neg k11]
          refine hX 30 [71] 60 _ _ _ _ _ _ ?_
          refine And.intro (fun _ => ?_) (fun c => absurd (show (n : Int) = 10 from c) (by omega))
          refine hX 30 [83] 71 _ _ _ _ _ _ ?_
          refine Ok_rt (m_isWrong S) ?_
          rw [if_pos z]
          refine And.intro (fun _ => ?_) (fun y => absurd rfl y)
          refine Ok_mono (fun o' Λ' g1 hp => ?_) (m_tokenP S z (by omega))
          obtain ⟨e1, e2, F1, S1⟩ := hp
          subst e1
          subst e2
          rw [← tk.1] at S1
          refine st110 2 g1 _ F1 n10 ?_
          have P := PG_0 (x := 2) (p := p) (n := n) S1 tk.2 F1 ⟨hp, n10⟩ h11 (ez n10)
          obtain ⟨g2, eg2⟩ : ∃ g2 : HP, g2 = up (upRow g1 (8 * (10 * p + n)) 2) 67 (52 + 10 * p + n) 0 := ⟨_, rfl⟩
          rw [erow, eease, ← eg2]
          rw [← eg2] at P
          have eJ : shJ w (p : Int) = (n : Int) := jV 12 tk.2
          have zs : spH (ptH w 12) (p : Int) 2 4 10 = 0 := by rw [sp_4]; exact tk.2
          have ak := ask _ _ _ _ _ _ P zs
          rw [← erow, ← eease]
          refine hX 30 [195] 183 _ _ _ _ _ _ ?_
          refine And.intro (fun c => absurd c (by decide)) (fun _ => ?_)
          refine Ok_mono (fun o' Λ' g3 hp => ?_) (mr_width (i := (p : Int)) (j := (n : Int)) (row := row) (ease := ease) P.1 (by omega) (by omega) ⟨⟨by omega, by omega⟩, by omega, by omega⟩ (fun _ => ⟨ak.1, ak.2.1⟩))
          obtain ⟨e1, e2, S3, m, P', Q, E, C, R⟩ := hp
          subst e1
          subst e2
          rw [erow, eease] at C
          have P3 := PG_wd ⟨hp, n10⟩ P S3 C (fun y => (R y).1)
          obtain ⟨w3, ew3⟩ : ∃ w3 : HP, w3 = wdH (spH (ptH w 12) (p : Int) 2) (p : Int) (n : Int) := ⟨_, rfl⟩
          rw [← ew3] at P3 R
          refine hX 30 [210] 195 _ _ _ _ _ _ ?_
          refine And.intro (fun c => absurd rfl c) (fun _ => ?_)
          refine Ok_mono (fun o' Λ' h2 hp => ?_) (m_word 17 21 ⟨by decide, by decide⟩ (by decide) P3.1)
          obtain ⟨e1, e2, x, e3, hb⟩ := hp
          subst e1
          rw [e2, e3]
          refine Ok_mono (fun o' Λ' g4 hp => ?_) (m_passes (k := 21) P3.1 (by decide) (fun _ => bI_iff hb))
          obtain ⟨e1, e2, F4, S4⟩ := hp
          subst e1
          subst e2
          have P4 := PG_pt P3 S4 F4
          refine hX 30 [226] 210 _ _ _ _ _ _ ?_
          refine And.intro (fun c => absurd c (by decide)) (fun _ => ?_)
          refine And.intro (show inR ((row : Int) + 5) from ⟨by omega, by omega⟩) ?_
          refine Ok_mono (fun o' Λ' g5 hp => ?_) (m_measureHere S4 (fun y => ⟨(ask _ _ _ _ _ _ P4 y).1, (ask _ _ _ _ _ _ P4 y).2.1⟩))
          obtain ⟨e1, F5, S5, r5, e3, rb5, hr5⟩ := hp
          subst e1
          rw [e3]
          refine And.intro (show 0 ≤ (row : Int) + 5 ∧ (row : Int) + 5 < 480 from ⟨by omega, by omega⟩) ?_
          rw [show ((row : Int) + 5).toNat = 8 * (10 * p + n) + 5 by omega]
          have P5 := PG_vt (w1 := knH (ptH w3 21) 1) (x := numN (ptH w3 21) 1 (tvH (ptH w3 21))) (r := r5) (k := 6) (s := 5) ⟨hp, n10⟩ P4 F5 (fun y => ⟨⟨kn_10 y, fun c h0 h1 => kn_cell (by omega)⟩, (hr5 y).1⟩) (by decide) ⟨by decide, by decide⟩ (SR_tl (SR_up S5 ⟨by decide, by decide⟩))
          obtain ⟨w5, ew5⟩ : ∃ w5 : HP, w5 = tlH (knH (ptH w3 21) 1) (p : Int) (n : Int) 6 (numN (ptH w3 21) 1 (tvH (ptH w3 21))) := ⟨_, rfl⟩
          rw [← ew5] at P5
          refine hX 30 [256] 226 _ _ _ _ _ _ ?_
          refine And.intro (fun c => absurd rfl c) (fun _ => ?_)
          refine Ok_mono (fun o' Λ' h2 hp => ?_) (m_word 18 22 ⟨by decide, by decide⟩ (by decide) P5.1)
          obtain ⟨e1, e2, x, e3, hb⟩ := hp
          subst e1
          rw [e2, e3]
          refine Ok_mono (fun o' Λ' g6 hp => ?_) (m_passes (k := 22) P5.1 (by decide) (fun _ => bI_iff hb))
          obtain ⟨e1, e2, F6, S6⟩ := hp
          subst e1
          subst e2
          have P6 := PG_pt P5 S6 F6
          refine And.intro (show inR ((row : Int) + 6) from ⟨by omega, by omega⟩) ?_
          refine Ok_mono (fun o' Λ' g7 hp => ?_) (m_figure (a := 1) (b := 4) S6 ⟨by decide, by decide⟩)
          obtain ⟨e1, F7, S7, r7, e3, rb7, hr7⟩ := hp
          subst e1
          rw [e3]
          refine And.intro (show 0 ≤ (row : Int) + 6 ∧ (row : Int) + 6 < 480 from ⟨by omega, by omega⟩) ?_
          rw [show ((row : Int) + 6).toNat = 8 * (10 * p + n) + 6 by omega]
          have P7 := PG_vt (w1 := numH (ptH w5 22) 1 4) (x := l2iI (tvH (ptH w5 22))) (r := r7) (k := 7) (s := 6) ⟨hp, n10⟩ P6 F7 (fun y => ⟨⟨num_10 y, fun c h0 h1 => num_cell (by omega)⟩, (hr7 y).1⟩) (by decide) ⟨by decide, by decide⟩ (SR_tl (SR_up S7 ⟨by decide, by decide⟩))
          refine at256 2 _ _ _ _ E (by decide) n10 P7 ?_ (fun y r r0 r3 => ?_)
          · rw [ePL]
            unfold shH shE shD shC shB
            rw [eJ, ← ew3, ← ew5]
          · rw [tl_4] at y
            have h7 := (hr7 y).2
            have y6 := num_10 y
            have y5 := (pt_10 y6).1
            rw [ew5, tl_4] at y5
            have h5 := (hr5 y5).2
            have y4 := kn_10 y5
            have y3 := (pt_10 y4).1
            obtain ⟨-, hm, hP, hQ, hE⟩ := R y3
            rw [ak.2.2.2] at hm
            rw [(ask _ _ _ _ _ _ P4 y4).2.2.2] at h5
            exact ⟨gf_shape, pf_shape n0' ⟨r0, r3⟩ hm hP hQ h5 h7, hE⟩
        · exact full 2 _ _ (Or.inr k12) (by omega)
      · refine And.intro (fun y => absurd rfl y) (fun _ => ?_)
        refine Ok_rt (m_fails S) ?_
        refine bad60 2 _ _ _ _ H1 flG_fr z1 ?_
        unfold plH
        rw [if_neg n0, if_neg (fun y => by omega)]
end MPART
