/-! ===== the model: a part of a piece ===== -/
theorem ca_er {v : HP} {i : Int} (z : v 4 10 ≠ 0) : caH v i = v := by
  have b : caB v i = v := by unfold caB; rw [pt_er z, sp_er z]
  unfold caH
  rw [b, wd_er z, rc_er z, pt_er z]
theorem sh_er {v : HP} {i : Int} (z : v 4 10 ≠ 0) : shH v i = v := by
  have b : shB v i = v := by unfold shB; rw [pt_er z, sp_er z]
  have c : shC v i = v := by unfold shC; rw [b, wd_er z, pt_er z]
  have d : shD v i = v := by unfold shD; rw [c, kn_er z, tl_er z, pt_er z]
  have e : shE v i = v := by unfold shE; rw [d, num_er z, tl_er z, rc_er z]
  unfold shH
  rw [e, pt_er z]
theorem wo_er {v : HP} {i : Int} (z : v 4 10 ≠ 0) : woH v i = v := by
  have b : woB v i = v := by unfold woB; rw [pt_er z, sp_er z]
  have c : woC v i = v := by unfold woC; rw [b, kn_er z, tl_er z, rc_er z]
  have d : woD v i = v := by
    unfold woD
    rw [c, pass_er z, kn_er z, tl_er z]
    split <;> rfl
  unfold woH
  rw [d, pt_er z]
/-- the class's facts of a part, and the model's row of it -/
def FC (w0 w : HP) (b : Int) (F : Int → Int) : Prop := ∀ q, rd (w 12) 540 q = if b ≤ q ∧ q < b + 9 then F (q - b) else rd (w0 12) 540 q
def GC (g0 g : HP) (row : Nat) (G : Int → Int) : Prop := ∀ q, rd (g 66) 480 q = if (row : Int) ≤ q ∧ q < (row : Int) + 8 then G (q - (row : Int)) else rd (g0 66) 480 q
def sF (F : Int → Int) (k x : Int) : Int → Int := fun s => if s = k then x else F s
theorem FC_tl {w0 w : HP} {b i j k x : Int} {F : Int → Int} (z : w 4 10 = 0) (hb : b = (i * 10 + j) * 9) (h0 : 0 ≤ b ∧ b + 9 ≤ 540) (hk : 0 ≤ k ∧ k < 9) (H : FC w0 w b F) : FC w0 (tlH w i j k x) b (sF F k x) := by
  intro q
  unfold tlH sF
  rw [if_pos z, rd_w, H q]
  by_cases y : q = (i * 10 + j) * 9 + k
  · rw [if_pos ⟨by omega, by omega, y⟩, if_pos ⟨by omega, by omega⟩, if_pos (by omega)]
  · rw [if_neg (fun u => y u.2.2)]
    by_cases u : b ≤ q ∧ q < b + 9
    · rw [if_pos u, if_pos u, if_neg (by omega)]
    · rw [if_neg u, if_neg u]
theorem GC_up {g0 g : HP} {row s : Nat} {x : Int} {G : Int → Int} (hr : row + 8 ≤ 480) (hs : s < 8) (H : GC g0 g row G) : GC g0 (up g 66 (row + s) x) row (sF G (s : Int) x) := by
  intro q
  unfold sF
  rw [rd_up (by omega), H q]
  by_cases y : q = ((row + s : Nat) : Int)
  · rw [if_pos y, if_pos ⟨by omega, by omega⟩, if_pos (by omega)]
  · rw [if_neg y]
    by_cases u : (row : Int) ≤ q ∧ q < (row : Int) + 8
    · rw [if_pos u, if_pos u, if_neg (by omega)]
    · rw [if_neg u, if_neg u]
/-- a part begins -/
def fct0 (x : Int) : Int → Int := fun s => if s = 8 then -1 else if s = 6 then -1 else if s = 2 then -1 else if s = 0 then x else 0
theorem sp_cells {w : HP} {i n x : Int} (z : w 4 10 = 0) (hn : rd (w 11) 6 i = n) (hi : (0 ≤ i ∧ i < 6) ∧ 0 ≤ n ∧ n < 10) : FC w (spH w i x) ((i * 10 + n) * 9) (fct0 x) ∧ ∀ q, rd (spH w i x 11) 6 q = if q = i then n + 1 else rd (w 11) 6 q := by
  have en : rdA w 11 6 i = n := hn
  have eS : spH w i x = wrA (addPartN w 5 x ((i * 10 + n) * 9)) 11 6 i (n + 1) := by
    unfold spH
    rw [if_pos z, en]
    rfl
  refine ⟨fun q => ?_, fun q => ?_⟩
  · rw [eS, wrA_cell (by decide)]
    have e : addPartN w 5 x ((i * 10 + n) * 9) = wrA (wrA (wrA (wrA (flF 12 540 0 9 ((i * 10 + n) * 9) w) 12 540 ((i * 10 + n) * 9 + 0) x) 12 540 ((i * 10 + n) * 9 + 2) (-1)) 12 540 ((i * 10 + n) * 9 + 6) (-1)) 12 540 ((i * 10 + n) * 9 + 8) (-1) := rfl
    have f : rd (flF 12 540 0 9 ((i * 10 + n) * 9) w 12) 540 q = if (i * 10 + n) * 9 ≤ q ∧ q < (i * 10 + n) * 9 + ((9 : Nat) : Int) ∧ q < ((540 : Nat) : Int) then 0 else rd (w 12) 540 q := rdA_flF (a := 12) (len := 540) (w := 0) 9 ((i * 10 + n) * 9) q w (by omega)
    rw [e, rd_w, rd_w, rd_w, rd_w, f]
    unfold fct0
    by_cases y8 : q = (i * 10 + n) * 9 + 8
    · rw [if_pos ⟨by omega, by omega, y8⟩, if_pos ⟨by omega, by omega⟩, if_pos (by omega)]
    · rw [if_neg (fun u => y8 u.2.2)]
      by_cases y6 : q = (i * 10 + n) * 9 + 6
      · rw [if_pos ⟨by omega, by omega, y6⟩, if_pos ⟨by omega, by omega⟩, if_neg (by omega), if_pos (by omega)]
      · rw [if_neg (fun u => y6 u.2.2)]
        by_cases y2 : q = (i * 10 + n) * 9 + 2
        · rw [if_pos ⟨by omega, by omega, y2⟩, if_pos ⟨by omega, by omega⟩, if_neg (by omega), if_neg (by omega), if_pos (by omega)]
        · rw [if_neg (fun u => y2 u.2.2)]
          by_cases y0 : q = (i * 10 + n) * 9 + 0
          · rw [if_pos ⟨by omega, by omega, y0⟩, if_pos ⟨by omega, by omega⟩, if_neg (by omega), if_neg (by omega), if_neg (by omega), if_pos (by omega)]
          · rw [if_neg (fun u => y0 u.2.2)]
            by_cases u : (i * 10 + n) * 9 ≤ q ∧ q < (i * 10 + n) * 9 + 9
            · rw [if_pos ⟨u.1, by omega, by omega⟩, if_pos u, if_neg (by omega), if_neg (by omega), if_neg (by omega), if_neg (by omega)]
            · rw [if_neg (fun y => u ⟨y.1, by omega⟩), if_neg u]
  · rw [eS, rd_w]
    have e11 : addPartN w 5 x ((i * 10 + n) * 9) 11 = w 11 := by
      unfold addPartN
      rw [wrA_cell (by decide), wrA_cell (by decide), wrA_cell (by decide), wrA_cell (by decide), flF_cell (by decide)]
    rw [e11]
    by_cases y : q = i
    · rw [if_pos ⟨by omega, by omega, y⟩, if_pos y]
    · rw [if_neg (fun u => y u.2.2), if_neg y]
/-- nothing but what the reading is at, parts and told numbers, has changed -/
def FrP (g g' : HP) : Prop := (∀ c, c ≠ 50 → c ≠ 66 → c ≠ 67 → g' c = g c) ∧ ∀ q, (q < 19 ∨ 24 < q) → g' 50 q = g 50 q
theorem FrP_T {g g' : HP} (H : FrT g g') : FrP g g' := ⟨fun c h _ _ => H.1 c h, H.2⟩
theorem FrP_tr {a b c : HP} (H : FrP a b) (G : FrP b c) : FrP a c := ⟨fun q h k l => (G.1 q h k l).trans (H.1 q h k l), fun q h => (G.2 q h).trans (H.2 q h)⟩
theorem FrP_up {g : HP} {p : Nat} {x : Int} : FrP g (up g 66 p x) := ⟨fun q h1 h2 h3 => up_cell h2, fun q hq => by rw [up_cell (by decide)]⟩
theorem FrP_ue {g : HP} {p : Nat} {x : Int} : FrP g (up g 67 p x) := ⟨fun q h1 h2 h3 => up_cell h3, fun q hq => by rw [up_cell (by decide)]⟩
theorem FrS_P {g g' : HP} (H : FrP g g') : FrS g g' := ⟨fun c h k => H.1 c h (by omega) (by omega), H.2⟩
/-- a part on the way: w0, g0 where it begins -/
def PG (T : Nat) (w0 g0 w g : HP) (p n : Nat) (F G : Int → Int) (EM EC : Int) : Prop :=
  SR T w g ∧ FrP g0 g ∧ GC g0 g (8 * (10 * p + n)) G ∧ (∀ q, rd (g 67) 132 q = if q = ((52 + 10 * p + n : Nat) : Int) then EM else rd (g0 67) 132 q) ∧
  (w 4 10 = 0 → FC w0 w (((p : Int) * 10 + (n : Int)) * 9) F ∧ (∀ q, rd (w 14) 132 q = if q = 72 + (p : Int) * 10 + (n : Int) then EC else rd (w0 14) 132 q) ∧ (∀ c, 6 ≤ c → c ≤ 10 → w c = w0 c) ∧ ∀ q, rd (w 11) 6 q = if q = (p : Int) then (n : Int) + 1 else rd (w0 11) 6 q)
section PGS
variable {T : Nat} {w0 g0 w w1 g g1 : HP} {p n s : Nat} {F G : Int → Int} {EM EC x r k : Int}
theorem PG_step (H : PG T w0 g0 w g p n F G EM EC) (S : SR T w1 g1) (Fr : FrT g g1) (h : w1 4 10 = 0 → w 4 10 = 0 ∧ ∀ c, 6 ≤ c → c ≤ 14 → w1 c = w c) : PG T w0 g0 w1 g1 p n F G EM EC := by
  obtain ⟨-, a, b, c, d⟩ := H
  refine ⟨S, FrP_tr a (FrP_T Fr), fun q => by rw [Fr.1 66 (by decide)]; exact b q, fun q => by rw [Fr.1 67 (by decide)]; exact c q, fun z => ?_⟩
  obtain ⟨z0, e⟩ := h z
  obtain ⟨d1, d2, d3, d4⟩ := d z0
  refine ⟨fun q => by rw [e 12 (by decide) (by decide)]; exact d1 q, fun q => by rw [e 14 (by decide) (by decide)]; exact d2 q, fun c h0 h1 => (e c h0 (by omega)).trans (d3 c h0 h1), fun q => by rw [e 11 (by decide) (by decide)]; exact d4 q⟩
theorem PG_pt (H : PG T w0 g0 w g p n F G EM EC) (S : SR T (ptH w k) g1) (Fr : FrT g g1) : PG T w0 g0 (ptH w k) g1 p n F G EM EC :=
  PG_step H S Fr (fun z => ⟨(pt_10 z).1, fun c h0 h1 => pt_cell (by omega)⟩)
/-- a number is told to both -/
theorem PG_vt (hp : p < 6 ∧ n < 10) (H : PG T w0 g0 w g p n F G EM EC) (Fr : FrT g g1) (h : w1 4 10 = 0 → (w 4 10 = 0 ∧ ∀ c, 6 ≤ c → c ≤ 14 → w1 c = w c) ∧ r = x) (hs : s < 8) (hk : 0 ≤ k ∧ k < 9) (S : SR T (tlH w1 (p : Int) (n : Int) k x) (up g1 66 (8 * (10 * p + n) + s) r)) :
    PG T w0 g0 (tlH w1 (p : Int) (n : Int) k x) (up g1 66 (8 * (10 * p + n) + s) r) p n (sF F k r) (sF G (s : Int) r) EM EC := by
  obtain ⟨-, a, b, c, d⟩ := H
  refine ⟨S, FrP_tr (FrP_tr a (FrP_T Fr)) FrP_up, GC_up (by omega) hs (fun q => by rw [Fr.1 66 (by decide)]; exact b q), fun q => by rw [up_cell (by decide), Fr.1 67 (by decide)]; exact c q, fun z => ?_⟩
  have z1 : w1 4 10 = 0 := by
    rw [tl_4] at z
    exact z
  obtain ⟨⟨z0, e⟩, er⟩ := h z1
  obtain ⟨d1, d2, d3, d4⟩ := d z0
  refine ⟨?_, fun q => by rw [tl_cell (by decide), e 14 (by decide) (by decide)]; exact d2 q, fun c h0 h1 => (tl_cell (by omega)).trans ((e c h0 (by omega)).trans (d3 c h0 h1)), fun q => by rw [tl_cell (by decide), e 11 (by decide) (by decide)]; exact d4 q⟩
  rw [er]
  exact FC_tl z1 rfl ⟨by omega, by omega⟩ hk (fun q => by rw [e 12 (by decide) (by decide)]; exact d1 q)
theorem PG_wd {m P Q E : Int} (hp : p < 6 ∧ n < 10) (H : PG T w0 g0 w g p n F G EM EC) (S : SR T (wdH w (p : Int) (n : Int)) g1) (C : WC g g1 (8 * (10 * p + n)) (52 + 10 * p + n) m P Q E)
    (h : wdH w (p : Int) (n : Int) 4 10 = 0 → m = numN w 1 (tvH w) ∧ P = wdP (wdEH (wdA w (p : Int) (n : Int))) ∧ Q = wdQ (wdEH (wdA w (p : Int) (n : Int))) ∧ E = wdE (wdA w (p : Int) (n : Int))) :
    PG T w0 g0 (wdH w (p : Int) (n : Int)) g1 p n (sF (sF (sF F 2 m) 4 P) 5 Q) (sF (sF (sF G 2 m) 3 P) 4 Q) E E := by
  obtain ⟨-, a, b, c, d⟩ := H
  refine ⟨S, FrP_tr a C.1, fun q => ?_, fun q => ?_, fun z => ?_⟩
  · rw [C.2.1 q, b q]
    unfold sF
    by_cases y2 : q = ((8 * (10 * p + n) : Nat) : Int) + 2
    · rw [if_pos y2, if_pos ⟨by omega, by omega⟩, if_neg (by omega), if_neg (by omega), if_pos (by omega)]
    · rw [if_neg y2]
      by_cases y3 : q = ((8 * (10 * p + n) : Nat) : Int) + 3
      · rw [if_pos y3, if_pos ⟨by omega, by omega⟩, if_neg (by omega), if_pos (by omega)]
      · rw [if_neg y3]
        by_cases y4 : q = ((8 * (10 * p + n) : Nat) : Int) + 4
        · rw [if_pos y4, if_pos ⟨by omega, by omega⟩, if_pos (by omega)]
        · rw [if_neg y4]
          by_cases u : ((8 * (10 * p + n) : Nat) : Int) ≤ q ∧ q < ((8 * (10 * p + n) : Nat) : Int) + 8
          · rw [if_pos u, if_pos u, if_neg (by omega), if_neg (by omega), if_neg (by omega)]
          · rw [if_neg u, if_neg u]
  · rw [C.2.2 q, c q]
    by_cases y : q = ((52 + 10 * p + n : Nat) : Int)
    · rw [if_pos y, if_pos y]
    · rw [if_neg y, if_neg y, if_neg y]
  · obtain ⟨h1, h2, h3, h4⟩ := h z
    obtain ⟨d1, d2, d3, d4⟩ := d (wd_10 z)
    obtain ⟨c12, c14⟩ := wd_cells z ⟨⟨by omega, by omega⟩, by omega, by omega⟩
    refine ⟨fun q => ?_, fun q => ?_, fun c h0 h1 => (wd_cell (by omega) (by omega) (by omega)).trans (d3 c h0 h1), fun q => by rw [wd_cell (by decide) (by decide) (by decide)]; exact d4 q⟩
    · rw [c12, ← h1, ← h2, ← h3, d1 q]
      unfold sF
      by_cases y5 : q = ((p : Int) * 10 + (n : Int)) * 9 + 5
      · rw [if_pos y5, if_pos ⟨by omega, by omega⟩, if_pos (by omega)]
      · rw [if_neg y5]
        by_cases y4 : q = ((p : Int) * 10 + (n : Int)) * 9 + 4
        · rw [if_pos y4, if_pos ⟨by omega, by omega⟩, if_neg (by omega), if_pos (by omega)]
        · rw [if_neg y4]
          by_cases y2 : q = ((p : Int) * 10 + (n : Int)) * 9 + 2
          · rw [if_pos y2, if_pos ⟨by omega, by omega⟩, if_neg (by omega), if_neg (by omega), if_pos (by omega)]
          · rw [if_neg y2]
            by_cases u : ((p : Int) * 10 + (n : Int)) * 9 ≤ q ∧ q < ((p : Int) * 10 + (n : Int)) * 9 + 9
            · rw [if_pos u, if_pos u, if_neg (by omega), if_neg (by omega), if_neg (by omega)]
            · rw [if_neg u, if_neg u]
    · rw [c14, ← h4, d2 q]
      by_cases y : q = 72 + (p : Int) * 10 + (n : Int)
      · rw [if_pos y, if_pos y]
      · rw [if_neg y, if_neg y, if_neg y]
end PGS
/-- a part's facts, as they must be -/
def PtF (tot : Nat → Int) (F : Int → Int) (k : Int) : Prop :=
  (0 ≤ F 0 ∧ F 0 ≤ 2) ∧ (F 0 = 0 ↔ k = 0) ∧ (0 ≤ F 1 ∧ F 1 ≤ 3) ∧ (F 0 = 1 → F 2 = -1 ∧ F 4 = 0 ∧ F 5 = 0) ∧ (F 0 ≠ 1 → (0 ≤ F 2 ∧ F 2 < rd tot 4 1) ∧ (1 ≤ F 4 ∧ F 4 ≤ 30) ∧ 0 ≤ F 5 ∧ F 5 < F 4) ∧
  (F 0 = 0 → F 6 = -1) ∧ (F 0 ≠ 0 → 0 ≤ F 6 ∧ F 6 < rd tot 4 1) ∧ (F 0 = 2 → 1 ≤ F 7 ∧ F 7 ≤ 4) ∧ (F 0 ≠ 2 → F 7 = 0) ∧ (F 8 = -1 ∨ (F 0 = 1 ∧ 0 ≤ F 8 ∧ F 8 < rd tot 4 2))
def GF (F G : Int → Int) : Prop := (G 0 = F 0 ∧ G 1 = F 1 ∧ G 2 = F 2 ∧ G 3 = F 4) ∧ G 4 = F 5 ∧ G 5 = F 6 ∧ G 6 = F 7 ∧ G 7 = F 8
