/-! ===== Plan: what is told of a knitted piece ===== -/
def PDat (h : HP) (D : KD) (p : Int) (n : Nat) : Prop := ∀ k : Nat, k < n → cF (h 26) p k 0 = kK D k ∧ cF (h 26) p k 1 = kC D k ∧ cF (h 26) p k 8 = kH D k ∧ cF (h 26) p k 7 = kP D k ∧
  (kH D k ≠ -1 → rd (h 23) 32 (kH D k * 8 + 0) = kW D k ∧ rd (h 22) 4 (kH D k) = kN D k ∧ ∀ i, rd (h 24) 32 (kH D k * 8 + i) = kM D k i)
def QI (h : HP) (b : Nat) (D : KD) (n : Nat) (p : Int) : Prop := PlanIs h b D n p ∧ PDat h D p n ∧ KOK D n ∧ (0 ≤ p ∧ p ≤ 10) ∧ n ≤ 10
def shp (D : KD) (k : Nat) : Int := if kK D k ≠ 2 ∨ kP D k < 1 then 0 else (ab (hv D (k + 1) - hv D k)).tdiv (kP D k)
def upT (i n R : Int) : Int := if R < 1 then 0 else ((i + 2) * n - 1).tdiv R
def rpt (D : KD) (k : Nat) : Int := if kW D k < 1 then 0 else (hv D k).tdiv (kW D k)
/-- the stitches behind row i of part k -/
def sS (D : KD) (k : Nat) (i : Int) : Int :=
  if kH D k ≠ -1 then (if kN D k < 1 then 0 else rpt D k * kM D k (i.tmod (kN D k)))
  else if shp D k = 0 then hv D (k + 1)
  else if hv D k < hv D (k + 1) then hv D k + kP D k * upT i (shp D k) (kR D k) else hv D k - kP D k * upT i (shp D k) (kR D k)
theorem tp_mono {D : KD} {n : Nat} (h : KOK D n) : ∀ (m k : Nat), k + m ≤ n → tp D k ≤ tp D (k + m)
  | 0, k, _ => Int.le_refl _
  | m + 1, k, hk => by
    have ih := tp_mono h m k (by omega)
    have hh := (h (k + m) (by omega)).2.2.2.1
    show tp D k ≤ tp D (k + m) + kR D (k + m : Nat)
    omega
theorem tp_le {D : KD} {n j k : Nat} (h : KOK D n) (a : j ≤ k) (b : k ≤ n) : tp D j ≤ tp D k := by
  have := tp_mono h (k - j) j (by omega)
  rwa [show j + (k - j) = k by omega] at this
theorem shp_bd {D : KD} {n k : Nat} (h : KOK D n) (hk : k < n) : 0 ≤ shp D k ∧ shp D k ≤ 4100 := by
  have h1 := hv_bd h k (by omega)
  have h2 := hv_bd h (k + 1) (by omega)
  have h3 := ab_bd (A := 4100) (x := hv D (k + 1) - hv D k) (by omega) (by omega)
  unfold shp
  split
  · omega
  · have := td_bd (x := ab (hv D (k + 1) - hv D k)) (y := kP D k) h3.1 (by omega)
    omega
theorem rpt_bd {D : KD} {n k : Nat} (h : KOK D n) (hk : k < n) : 0 ≤ rpt D k ∧ rpt D k ≤ 4100 := by
  have h1 := hv_bd h k (by omega)
  unfold rpt
  split
  · omega
  · have := td_bd (x := hv D k) (y := kW D k) h1.1 (by omega)
    omega
theorem upT_bd {i n R : Int} (hi : 0 ≤ i) (hi2 : i < R) (hn : 0 ≤ n) (hn2 : n ≤ 4100) (hR : R ≤ 2980) : (0 ≤ (i + 2) * n ∧ (i + 2) * n ≤ 20000000) ∧ -1 ≤ upT i n R ∧ upT i n R ≤ 20000000 := by
  have h1 := mul_bd (a := i + 2) (b := n) (A := 3000) (B := 4100) (by omega) (by omega) hn hn2
  refine ⟨⟨h1.1, by omega⟩, ?_⟩
  unfold upT
  rw [if_neg (by omega)]
  by_cases z : 0 ≤ (i + 2) * n - 1
  · have := td_bd (y := R) z (by omega)
    omega
  · have e : (i + 2) * n - 1 = -1 := by omega
    rw [e]
    have : (-1 : Int).tdiv R = -((1 : Int).tdiv R) := Int.neg_tdiv 1 R
    have := td_bd (x := 1) (y := R) (by omega) (by omega)
    omega
theorem shp_eq {D : KD} {k : Nat} (a : kK D k = 2) (b : 1 ≤ kP D k) : (ab (hv D (k + 1) - hv D k)).tdiv (kP D k) = shp D k := by unfold shp; rw [if_neg (fun z => z.elim (fun y => y a) (fun y => absurd b (Int.not_le.mpr y)))]
section QUERY
variable {N : List CT} {h : HP} {b : Nat} {D : KD} {n k : Nat} {p row i j r : Int}
theorem dfact0 (hb : isPl b) (hQ : QI h b D n p) (hk : k < md D n) : Ok 42 [vR b, vI (k : Int), vI 0] (LC N) h (rt (some (vI (kK D k))) (LC N) h) := by
  have hm := (md_spec D n).1
  have hn := hQ.2.2.2.2
  have z := pfact_ok (N := N) (k := (k : Int)) (w := 0) hb hQ.1.1 hQ.2.2.2.1 (by omega) (by decide)
  rw [(hQ.2.1 k (by omega)).1] at z
  exact z

theorem dfact1 (hb : isPl b) (hQ : QI h b D n p) (hk : k < md D n) : Ok 42 [vR b, vI (k : Int), vI 1] (LC N) h (rt (some (vI (kC D k))) (LC N) h) := by
  have hm := (md_spec D n).1
  have hn := hQ.2.2.2.2
  have z := pfact_ok (N := N) (k := (k : Int)) (w := 1) hb hQ.1.1 hQ.2.2.2.1 (by omega) (by decide)
  rw [(hQ.2.1 k (by omega)).2.1] at z
  exact z

theorem dfact8 (hb : isPl b) (hQ : QI h b D n p) (hk : k < md D n) : Ok 42 [vR b, vI (k : Int), vI 8] (LC N) h (rt (some (vI (kH D k))) (LC N) h) := by
  have hm := (md_spec D n).1
  have hn := hQ.2.2.2.2
  have z := pfact_ok (N := N) (k := (k : Int)) (w := 8) hb hQ.1.1 hQ.2.2.2.1 (by omega) (by decide)
  rw [(hQ.2.1 k (by omega)).2.2.1] at z
  exact z

theorem dfact7 (hb : isPl b) (hQ : QI h b D n p) (hk : k < md D n) : Ok 42 [vR b, vI (k : Int), vI 7] (LC N) h (rt (some (vI (kP D k))) (LC N) h) := by
  have hm := (md_spec D n).1
  have hn := hQ.2.2.2.2
  have z := pfact_ok (N := N) (k := (k : Int)) (w := 7) hb hQ.1.1 hQ.2.2.2.1 (by omega) (by decide)
  rw [(hQ.2.1 k (by omega)).2.2.2.1] at z
  exact z

theorem dRows (hb : isPl b) (hQ : QI h b D n p) (hk : k < md D n) : Ok 43 [vR b, vI (k : Int)] (LC N) h (rt (some (vI (kR D k))) (LC N) h) := by
  have hm := (md_spec D n).1
  have hn := hQ.2.2.2.2
  have z := rowsOf_ok (N := N) (h := h) (k := (k : Int)) hb
  rw [(hQ.1.2.2.2.2 k hk).2.1] at z
  exact z

theorem dAhead (hb : isPl b) (hQ : QI h b D n p) (hk : k < md D n) : Ok 45 [vR b, vI (k : Int)] (LC N) h (rt (some (vI (hv D k))) (LC N) h) := by
  have hm := (md_spec D n).1
  have hn := hQ.2.2.2.2
  have z := ahead_ok (N := N) (h := h) (k := (k : Int)) hb
  rw [(hQ.1.2.2.2.2 k hk).2.2.1] at z
  exact z

theorem dAfter (hb : isPl b) (hQ : QI h b D n p) (hk : k < md D n) : Ok 46 [vR b, vI (k : Int)] (LC N) h (rt (some (vI (hv D (k + 1)))) (LC N) h) := by
  have hm := (md_spec D n).1
  have hn := hQ.2.2.2.2
  have z := after_ok (N := N) (h := h) (k := (k : Int)) hb
  rw [(hQ.1.2.2.2.2 k hk).2.2.2] at z
  exact z

theorem dBehind (hb : isPl b) (hQ : QI h b D n p) (hk : k < md D n) : Ok 44 [vR b, vI (k : Int)] (LC N) h (rt (some (vI (tp D (k + 1)))) (LC N) h) := by
  have hm := (md_spec D n).1
  have a := hQ.1.2.2.2.2 k hk
  have t := tp_bd hQ.2.2.1 k (by omega)
  have r := (hQ.2.2.1 k (by omega)).2.2.2.1
  have hn := hQ.2.2.2.2
  have z := rowBehind_ok (N := N) (h := h) (k := (k : Int)) hb (by rw [a.1]; omega) (by rw [a.2.1]; omega)
  rw [a.1, a.2.1] at z
  exact z
theorem dFirst (hb : isPl b) (hQ : QI h b D n p) (hk : k < md D n) : Ok 0 [vR (b + 1), vI (k : Int)] (LC N) h (rt (some (vI (tp D k))) (LC N) h) := by
  have a := (hQ.1.2.2.2.2 k hk).1
  have z := at_ok (Λ := LC N) (h := h) (a := b + 1) (len := 10) (i := (k : Int)) (by rcases hb with rfl | rfl <;> rfl) (by decide)
  rw [a] at z
  exact z

theorem dPart (hb : isPl b) (hQ : QI h b D n p) (hk : k < md D n) (h1 : tp D k ≤ row) (h2 : row < tp D (k + 1)) : Ok 47 [vR b, vI row] (LC N) h (rt (some (vI (k : Int))) (LC N) h) := by
  rcases hb with rfl | rfl
  · have hb9 : isPl 31 := Or.inl rfl
    have hm := (md_spec D n).1
    have hn := hQ.2.2.2.2
    refine ok_body B_X3_partOfRow rfl (fun X hX => ?_)
    have loop : ∀ (m : Nat) (j : Nat), j ≤ k → k - j = m → X 2 [vR 31, vI row, vI (j : Int)] [] (LC N) h 0 0 := by
      intro m
      have f6 := hQ.1.2.1
      induction m with
      | zero =>
        intro j hj hm
        have hjk : j = k := by omega
        subst hjk
        refine hX 20 [] 2 _ _ _ _ _ _ ?_
        refine And.intro (fun c7 => absurd c7 (by omega)) (fun c7 => ?_)
        refine Ok_rt (dBehind hb9 hQ hk) ?_
        refine And.intro (fun c16 => absurd c16 (by omega)) (fun c16 => ?_)
        exact rt_mk rfl rfl
      | succ m ih =>
        intro j hj hm
        have tl := tp_le hQ.2.2.1 (show j + 1 ≤ k by omega) (by omega)
        refine hX 20 [2] 2 _ _ _ _ _ _ ?_
        refine And.intro (fun c7 => absurd c7 (by omega)) (fun c7 => ?_)
        refine Ok_rt (dBehind hb9 hQ (k := j) (by omega)) ?_
        refine And.intro (fun c16 => ?_) (fun c16 => absurd c16 (by omega))
        refine And.intro ⟨by omega, by omega⟩ ?_
        exact ih (j + 1) (by omega) (by omega)
    refine hX 5 [2] 0 _ _ _ _ _ _ ?_
    exact loop k 0 (by omega) (by omega)
  · have hb9 : isPl 36 := Or.inr rfl
    have hm := (md_spec D n).1
    have hn := hQ.2.2.2.2
    refine ok_body B_X3_partOfRow rfl (fun X hX => ?_)
    have loop : ∀ (m : Nat) (j : Nat), j ≤ k → k - j = m → X 2 [vR 36, vI row, vI (j : Int)] [] (LC N) h 0 0 := by
      intro m
      have f6 := hQ.1.2.1
      induction m with
      | zero =>
        intro j hj hm
        have hjk : j = k := by omega
        subst hjk
        refine hX 20 [] 2 _ _ _ _ _ _ ?_
        refine And.intro (fun c7 => absurd c7 (by omega)) (fun c7 => ?_)
        refine Ok_rt (dBehind hb9 hQ hk) ?_
        refine And.intro (fun c16 => absurd c16 (by omega)) (fun c16 => ?_)
        exact rt_mk rfl rfl
      | succ m ih =>
        intro j hj hm
        have tl := tp_le hQ.2.2.1 (show j + 1 ≤ k by omega) (by omega)
        refine hX 20 [2] 2 _ _ _ _ _ _ ?_
        refine And.intro (fun c7 => absurd c7 (by omega)) (fun c7 => ?_)
        refine Ok_rt (dBehind hb9 hQ (k := j) (by omega)) ?_
        refine And.intro (fun c16 => ?_) (fun c16 => absurd c16 (by omega))
        refine And.intro ⟨by omega, by omega⟩ ?_
        exact ih (j + 1) (by omega) (by omega)
    refine hX 5 [2] 0 _ _ _ _ _ _ ?_
    exact loop k 0 (by omega) (by omega)

theorem upTo_ok (hi : 0 ≤ i) (hi2 : i < r) (hj : 0 ≤ j) (hj2 : j ≤ 4100) (hr : r ≤ 2980) : Ok 49 [vI i, vI j, vI r] (LC N) h (rt (some (vI (upT i j r))) (LC N) h) := by
  have u := upT_bd hi hi2 hj hj2 hr
  have e : ((i + 2) * j - 1).tdiv r = upT i j r := by unfold upT; rw [if_neg (by omega)]
  refine ok_body B_X3_shapingsUpTo rfl (fun X hX => ?_)
  refine hX 20 [] 0 _ _ _ _ _ _ ?_
  refine And.intro (fun c2 => ?_) (fun c2 => absurd c2 (by omega))
  refine And.intro ⟨by omega, by omega⟩ ?_
  refine And.intro ⟨by omega, by omega⟩ ?_
  refine And.intro ⟨by omega, by omega⟩ ?_
  refine And.intro ⟨by omega, by rw [e]; exact ⟨by omega, by omega⟩⟩ ?_
  exact rt_mk (by rw [e]) rfl

theorem dShp (hb : isPl b) (hQ : QI h b D n p) (hk : k < md D n) : Ok 51 [vR b, vI (k : Int)] (LC N) h (rt (some (vI (shp D k))) (LC N) h) := by
  rcases hb with rfl | rfl
  · have hb9 : isPl 31 := Or.inl rfl
    have hm := (md_spec D n).1
    have hb1 := hv_bd hQ.2.2.1 k (by omega)
    have hb2 := hv_bd hQ.2.2.1 (k + 1) (by omega)
    have h1' : -2147483648 < hv D (k + 1) - hv D k := by omega
    have h2' : hv D (k + 1) - hv D k ≤ 2147483647 := by omega
    have h3' : inR (hv D (k + 1) - hv D k) := ⟨by omega, by omega⟩
    have h4' := ab_bd (A := 10000) (x := hv D (k + 1) - hv D k) (by omega) (by omega)
    refine ok_body B_X3_shapingsOf rfl (fun X hX => ?_)
    refine hX 32 [8] 0 _ _ _ _ _ _ ?_
    refine Ok_rt (dfact7 hb9 hQ hk) ?_
    show X 8 [_, _, _] _ _ _ _ _
    refine hX 32 [8] 8 _ _ _ _ _ _ ?_
    refine Ok_rt (dfact0 hb9 hQ hk) ?_
    refine And.intro (fun c15 => ?_) (fun c15 => ?_)
    · exact rt_mk (congrArg (fun q => some (vI q)) (by unfold shp; rw [if_pos (Or.inl c15)])) rfl
    · refine And.intro (fun c20 => ?_) (fun c20 => ?_)
      · refine Ok_rt (dAfter hb9 hQ hk) ?_
        refine Ok_rt (dAhead hb9 hQ hk) ?_
        refine And.intro h3' ?_
        refine Ok_rt (abs_ok h1' h2') ?_
        refine And.intro ⟨nz c20, td_in h4' c20⟩ ?_
        exact rt_mk (congrArg (fun q => some (vI q)) (shp_eq c15 c20)) rfl
      · exact rt_mk (congrArg (fun q => some (vI q)) (by unfold shp; rw [if_pos (Or.inr c20)])) rfl
  · have hb9 : isPl 36 := Or.inr rfl
    have hm := (md_spec D n).1
    have hb1 := hv_bd hQ.2.2.1 k (by omega)
    have hb2 := hv_bd hQ.2.2.1 (k + 1) (by omega)
    have h1' : -2147483648 < hv D (k + 1) - hv D k := by omega
    have h2' : hv D (k + 1) - hv D k ≤ 2147483647 := by omega
    have h3' : inR (hv D (k + 1) - hv D k) := ⟨by omega, by omega⟩
    have h4' := ab_bd (A := 10000) (x := hv D (k + 1) - hv D k) (by omega) (by omega)
    refine ok_body B_X3_shapingsOf rfl (fun X hX => ?_)
    refine hX 32 [8] 0 _ _ _ _ _ _ ?_
    refine Ok_rt (dfact7 hb9 hQ hk) ?_
    show X 8 [_, _, _] _ _ _ _ _
    refine hX 32 [8] 8 _ _ _ _ _ _ ?_
    refine Ok_rt (dfact0 hb9 hQ hk) ?_
    refine And.intro (fun c15 => ?_) (fun c15 => ?_)
    · exact rt_mk (congrArg (fun q => some (vI q)) (by unfold shp; rw [if_pos (Or.inl c15)])) rfl
    · refine And.intro (fun c20 => ?_) (fun c20 => ?_)
      · refine Ok_rt (dAfter hb9 hQ hk) ?_
        refine Ok_rt (dAhead hb9 hQ hk) ?_
        refine And.intro h3' ?_
        refine Ok_rt (abs_ok h1' h2') ?_
        refine And.intro ⟨nz c20, td_in h4' c20⟩ ?_
        exact rt_mk (congrArg (fun q => some (vI q)) (shp_eq c15 c20)) rfl
      · exact rt_mk (congrArg (fun q => some (vI q)) (by unfold shp; rw [if_pos (Or.inr c20)])) rfl

theorem dRpt (hb : isPl b) (hQ : QI h b D n p) (hk : k < md D n) (hc : kH D k ≠ -1) : Ok 50 [vR b, vI (k : Int)] (LC N) h (rt (some (vI (rpt D k))) (LC N) h) := by
  rcases hb with rfl | rfl
  · have hb9 : isPl 31 := Or.inl rfl
    have hm := (md_spec D n).1
    have hb1 := hv_bd hQ.2.2.1 k (by omega)
    have hc2 := (hQ.2.2.1 k (by omega)).2.2.2.2.2.2.1
    have e := ((hQ.2.1 k (by omega)).2.2.2.2 hc).1
    have tk : Ok 24 [vR 19, vI (kH D k), vI 0] (LC N) h (rt (some (vI (kW D k))) (LC N) h) := by
      have z := taken_ok (N := N) (h := h) (i := kH D k) (j := 0) (p := 19) (Or.inr rfl) (by omega) (by decide)
      rw [← e]; exact z
    refine ok_body B_X3_repeats rfl (fun X hX => ?_)
    refine hX 25 [16] 0 _ _ _ _ _ _ ?_
    refine Ok_rt (dfact8 hb9 hQ hk) ?_
    refine Ok_rt (tk) ?_
    show X 16 [_, _, _] _ _ _ _ _
    refine hX 25 [16] 16 _ _ _ _ _ _ ?_
    refine And.intro (fun c18 => ?_) (fun c18 => ?_)
    · refine Ok_rt (dAhead hb9 hQ hk) ?_
      refine And.intro ⟨nz c18, td_in (by omega) c18⟩ ?_
      exact rt_mk (congrArg (fun q => some (vI q)) (by unfold rpt; rw [if_neg (Int.not_lt.mpr c18)])) rfl
    · exact rt_mk (congrArg (fun q => some (vI q)) (by unfold rpt; rw [if_pos c18])) rfl
  · have hb9 : isPl 36 := Or.inr rfl
    have hm := (md_spec D n).1
    have hb1 := hv_bd hQ.2.2.1 k (by omega)
    have hc2 := (hQ.2.2.1 k (by omega)).2.2.2.2.2.2.1
    have e := ((hQ.2.1 k (by omega)).2.2.2.2 hc).1
    have tk : Ok 24 [vR 19, vI (kH D k), vI 0] (LC N) h (rt (some (vI (kW D k))) (LC N) h) := by
      have z := taken_ok (N := N) (h := h) (i := kH D k) (j := 0) (p := 19) (Or.inr rfl) (by omega) (by decide)
      rw [← e]; exact z
    refine ok_body B_X3_repeats rfl (fun X hX => ?_)
    refine hX 25 [16] 0 _ _ _ _ _ _ ?_
    refine Ok_rt (dfact8 hb9 hQ hk) ?_
    refine Ok_rt (tk) ?_
    show X 16 [_, _, _] _ _ _ _ _
    refine hX 25 [16] 16 _ _ _ _ _ _ ?_
    refine And.intro (fun c18 => ?_) (fun c18 => ?_)
    · refine Ok_rt (dAhead hb9 hQ hk) ?_
      refine And.intro ⟨nz c18, td_in (by omega) c18⟩ ?_
      exact rt_mk (congrArg (fun q => some (vI q)) (by unfold rpt; rw [if_neg (Int.not_lt.mpr c18)])) rfl
    · exact rt_mk (congrArg (fun q => some (vI q)) (by unfold rpt; rw [if_pos c18])) rfl

theorem st_num (hK : KOK D n) (hk : k < n) (hn : n ≤ 10) (h1 : tp D k ≤ row) (h2 : row < tp D (k + 1)) :
    inR (row - tp D k) ∧ (0 ≤ row - tp D k ∧ row - tp D k < kR D k) ∧ kR D k ≤ 2980 ∧ (1 ≤ kN D k → 0 ≤ (row - tp D k).tmod (kN D k) ∧ (row - tp D k).tmod (kN D k) < kN D k) ∧ (kH D k ≠ -1 → 1 ≤ kN D k → inR (rpt D k * kM D k ((row - tp D k).tmod (kN D k)))) ∧
      inR (kP D k * upT (row - tp D k) (shp D k) (kR D k)) ∧ inR (hv D k + kP D k * upT (row - tp D k) (shp D k) (kR D k)) ∧ inR (hv D k - kP D k * upT (row - tp D k) (shp D k) (kR D k)) := by
  have hR := (hK k hk).2.2.2.1
  have hT := tp_bd hK k (by omega)
  have hT2 : tp D (k + 1) = tp D k + kR D k := rfl
  have hb1 := hv_bd hK k (by omega)
  have sb := shp_bd hK hk
  have rb := rpt_bd hK hk
  have ub := upT_bd (i := row - tp D k) (n := shp D k) (R := kR D k) (by omega) (by omega) sb.1 sb.2 (by omega)
  have hPb : 0 ≤ kP D k ∧ kP D k ≤ 4 := by
    by_cases w : kK D k = 2
    · have := (hK k hk).2.2.2.2.2.2.2.1 w; omega
    · have := (hK k hk).2.2.2.2.2.2.2.2 w; omega
  have x := mul_bd (a := kP D k) (b := upT (row - tp D k) (shp D k) (kR D k) + 1) (A := 4) (B := 20000001) hPb.1 hPb.2 (by omega) (by omega)
  rw [Int.mul_add] at x
  have tmb : 1 ≤ kN D k → 0 ≤ (row - tp D k).tmod (kN D k) ∧ (row - tp D k).tmod (kN D k) < kN D k := fun c => by
    have z := tm_bd (x := row - tp D k) (y := kN D k) (by omega) (by omega)
    exact ⟨z.1, z.2.1⟩
  refine ⟨⟨by omega, by omega⟩, ⟨by omega, by omega⟩, hR.2, tmb, fun c d => ?_, ⟨by omega, by omega⟩, ⟨by omega, by omega⟩, ⟨by omega, by omega⟩⟩
  have q := tmb d
  rcases (hK k hk).2.2.2.2.2.2.1 with z | z
  · exact absurd z c
  · have y := z.2.2.2.2.2.1 _ q.1 q.2
    have x := mul_bd (a := rpt D k) (b := kM D k ((row - tp D k).tmod (kN D k))) (A := 4100) (B := 12) rb.1 rb.2 (by omega) y.2
    exact ⟨by omega, by omega⟩

theorem dSt31 (hQ : QI h 31 D n p) (hk : k < md D n) (h1 : tp D k ≤ row) (h2 : row < tp D (k + 1)) : Ok 48 [vR 31, vI row] (LC N) h (rt (some (vI (sS D k (row - tp D k)))) (LC N) h) := by
  have hb9 : isPl 31 := Or.inl rfl
  have hm := (md_spec D n).1
  have hkn : k < n := by omega
  obtain ⟨n1, n2, n3, tmb, im, ps, pa, pb⟩ := st_num hQ.2.2.1 hkn hQ.2.2.2.2 h1 h2
  have sb := shp_bd hQ.2.2.1 hkn
  have hc2 : kH D k ≠ -1 → (0 ≤ kH D k ∧ kH D k ≤ 3) ∧ kN D k ≤ 8 := fun c => by
    rcases (hQ.2.2.1 k hkn).2.2.2.2.2.2.1 with z | z
    · exact absurd z c
    · exact ⟨z.2.1, z.2.2.2.1.2⟩
  have cn : kH D k ≠ -1 → Ok 23 [vR 19, vI (kH D k)] (LC N) h (rt (some (vI (kN D k))) (LC N) h) := fun c => by
    have z := chartRowTotal_ok (N := N) (h := h) (i := kH D k) (p := 19) (Or.inr rfl)
    rw [← ((hQ.2.1 k hkn).2.2.2.2 c).2.1]; exact z
  have mk : kH D k ≠ -1 → 1 ≤ kN D k → Ok 25 [vR 19, vI (kH D k), vI ((row - tp D k).tmod (kN D k))] (LC N) h (rt (some (vI (kM D k ((row - tp D k).tmod (kN D k))))) (LC N) h) := fun c d => by
    have q := tmb d
    have y := hc2 c
    have z := made_ok (N := N) (h := h) (i := kH D k) (j := (row - tp D k).tmod (kN D k)) (p := 19) (Or.inr rfl) (by omega) (by omega)
    rw [← ((hQ.2.1 k hkn).2.2.2.2 c).2.2]; exact z
  refine ok_body B_X3_stitchesBehind rfl (fun X hX => ?_)
  refine hX 87 [6, 17, 26, 43, 80, 112] 0 _ _ _ _ _ _ ?_
  refine Ok_rt (dPart hb9 hQ hk h1 h2) ?_
  show X 6 [_, _, _, _, _, _, _] _ _ _ _ _
  refine hX 87 [6, 17, 26, 43, 80, 112] 6 _ _ _ _ _ _ ?_
  refine Ok_rt (dFirst hb9 hQ hk) ?_
  refine And.intro n1 ?_
  show X 17 [_, _, _, _, _, _, _] _ _ _ _ _
  refine hX 87 [6, 17, 26, 43, 80, 112] 17 _ _ _ _ _ _ ?_
  refine Ok_rt (dfact8 hb9 hQ hk) ?_
  show X 26 [_, _, _, _, _, _, _] _ _ _ _ _
  refine hX 87 [6, 17, 26, 43, 80, 112] 26 _ _ _ _ _ _ ?_
  refine And.intro (fun c29 => ?_) (fun c29 => ?_)
  · refine Ok_rt (dShp hb9 hQ hk) ?_
    show X 80 [_, _, _, _, _, _, _] _ _ _ _ _
    refine hX 87 [6, 17, 26, 43, 80, 112] 80 _ _ _ _ _ _ ?_
    refine And.intro (fun c82 => ?_) (fun c82 => ?_)
    · refine Ok_rt (dfact7 hb9 hQ hk) ?_
      refine Ok_rt (dRows hb9 hQ hk) ?_
      refine Ok_rt (upTo_ok n2.1 n2.2 sb.1 sb.2 n3) ?_
      refine And.intro ps ?_
      show X 112 [_, _, _, _, _, _, _] _ _ _ _ _
      refine hX 87 [6, 17, 26, 43, 80, 112] 112 _ _ _ _ _ _ ?_
      refine Ok_rt (dAfter hb9 hQ hk) ?_
      refine Ok_rt (dAhead hb9 hQ hk) ?_
      refine And.intro (fun c122 => ?_) (fun c122 => ?_)
      · refine Ok_rt (dAhead hb9 hQ hk) ?_
        refine And.intro pb ?_
        exact rt_mk (congrArg (fun q => some (vI q)) (by unfold sS; rw [if_neg (fun z => z c29), if_neg c82, if_neg (Int.not_lt.mpr c122)])) rfl
      · refine Ok_rt (dAhead hb9 hQ hk) ?_
        refine And.intro pa ?_
        exact rt_mk (congrArg (fun q => some (vI q)) (by unfold sS; rw [if_neg (fun z => z c29), if_neg c82, if_pos c122])) rfl
    · refine Ok_rt (dAfter hb9 hQ hk) ?_
      exact rt_mk (congrArg (fun q => some (vI q)) (by unfold sS; rw [if_neg (fun z => z c29), if_pos c82])) rfl
  · refine Ok_rt (cn c29) ?_
    show X 43 [_, _, _, _, _, _, _] _ _ _ _ _
    refine hX 87 [6, 17, 26, 43, 80, 112] 43 _ _ _ _ _ _ ?_
    refine And.intro (fun c46 => ?_) (fun c46 => ?_)
    · refine Ok_rt (dRpt hb9 hQ hk c29) ?_
      refine And.intro (nz c46) ?_
      refine Ok_rt (mk c29 c46) ?_
      refine And.intro (im c29 c46) ?_
      exact rt_mk (congrArg (fun q => some (vI q)) (by unfold sS; rw [if_pos c29, if_neg (Int.not_lt.mpr c46)])) rfl
    · exact rt_mk (congrArg (fun q => some (vI q)) (by unfold sS; rw [if_pos c29, if_pos c46])) rfl

theorem dSt36 (hQ : QI h 36 D n p) (hk : k < md D n) (h1 : tp D k ≤ row) (h2 : row < tp D (k + 1)) : Ok 48 [vR 36, vI row] (LC N) h (rt (some (vI (sS D k (row - tp D k)))) (LC N) h) := by
  have hb9 : isPl 36 := Or.inr rfl
  have hm := (md_spec D n).1
  have hkn : k < n := by omega
  obtain ⟨n1, n2, n3, tmb, im, ps, pa, pb⟩ := st_num hQ.2.2.1 hkn hQ.2.2.2.2 h1 h2
  have sb := shp_bd hQ.2.2.1 hkn
  have hc2 : kH D k ≠ -1 → (0 ≤ kH D k ∧ kH D k ≤ 3) ∧ kN D k ≤ 8 := fun c => by
    rcases (hQ.2.2.1 k hkn).2.2.2.2.2.2.1 with z | z
    · exact absurd z c
    · exact ⟨z.2.1, z.2.2.2.1.2⟩
  have cn : kH D k ≠ -1 → Ok 23 [vR 19, vI (kH D k)] (LC N) h (rt (some (vI (kN D k))) (LC N) h) := fun c => by
    have z := chartRowTotal_ok (N := N) (h := h) (i := kH D k) (p := 19) (Or.inr rfl)
    rw [← ((hQ.2.1 k hkn).2.2.2.2 c).2.1]; exact z
  have mk : kH D k ≠ -1 → 1 ≤ kN D k → Ok 25 [vR 19, vI (kH D k), vI ((row - tp D k).tmod (kN D k))] (LC N) h (rt (some (vI (kM D k ((row - tp D k).tmod (kN D k))))) (LC N) h) := fun c d => by
    have q := tmb d
    have y := hc2 c
    have z := made_ok (N := N) (h := h) (i := kH D k) (j := (row - tp D k).tmod (kN D k)) (p := 19) (Or.inr rfl) (by omega) (by omega)
    rw [← ((hQ.2.1 k hkn).2.2.2.2 c).2.2]; exact z
  refine ok_body B_X3_stitchesBehind rfl (fun X hX => ?_)
  refine hX 87 [6, 17, 26, 43, 80, 112] 0 _ _ _ _ _ _ ?_
  refine Ok_rt (dPart hb9 hQ hk h1 h2) ?_
  show X 6 [_, _, _, _, _, _, _] _ _ _ _ _
  refine hX 87 [6, 17, 26, 43, 80, 112] 6 _ _ _ _ _ _ ?_
  refine Ok_rt (dFirst hb9 hQ hk) ?_
  refine And.intro n1 ?_
  show X 17 [_, _, _, _, _, _, _] _ _ _ _ _
  refine hX 87 [6, 17, 26, 43, 80, 112] 17 _ _ _ _ _ _ ?_
  refine Ok_rt (dfact8 hb9 hQ hk) ?_
  show X 26 [_, _, _, _, _, _, _] _ _ _ _ _
  refine hX 87 [6, 17, 26, 43, 80, 112] 26 _ _ _ _ _ _ ?_
  refine And.intro (fun c29 => ?_) (fun c29 => ?_)
  · refine Ok_rt (dShp hb9 hQ hk) ?_
    show X 80 [_, _, _, _, _, _, _] _ _ _ _ _
    refine hX 87 [6, 17, 26, 43, 80, 112] 80 _ _ _ _ _ _ ?_
    refine And.intro (fun c82 => ?_) (fun c82 => ?_)
    · refine Ok_rt (dfact7 hb9 hQ hk) ?_
      refine Ok_rt (dRows hb9 hQ hk) ?_
      refine Ok_rt (upTo_ok n2.1 n2.2 sb.1 sb.2 n3) ?_
      refine And.intro ps ?_
      show X 112 [_, _, _, _, _, _, _] _ _ _ _ _
      refine hX 87 [6, 17, 26, 43, 80, 112] 112 _ _ _ _ _ _ ?_
      refine Ok_rt (dAfter hb9 hQ hk) ?_
      refine Ok_rt (dAhead hb9 hQ hk) ?_
      refine And.intro (fun c122 => ?_) (fun c122 => ?_)
      · refine Ok_rt (dAhead hb9 hQ hk) ?_
        refine And.intro pb ?_
        exact rt_mk (congrArg (fun q => some (vI q)) (by unfold sS; rw [if_neg (fun z => z c29), if_neg c82, if_neg (Int.not_lt.mpr c122)])) rfl
      · refine Ok_rt (dAhead hb9 hQ hk) ?_
        refine And.intro pa ?_
        exact rt_mk (congrArg (fun q => some (vI q)) (by unfold sS; rw [if_neg (fun z => z c29), if_neg c82, if_pos c122])) rfl
    · refine Ok_rt (dAfter hb9 hQ hk) ?_
      exact rt_mk (congrArg (fun q => some (vI q)) (by unfold sS; rw [if_neg (fun z => z c29), if_pos c82])) rfl
  · refine Ok_rt (cn c29) ?_
    show X 43 [_, _, _, _, _, _, _] _ _ _ _ _
    refine hX 87 [6, 17, 26, 43, 80, 112] 43 _ _ _ _ _ _ ?_
    refine And.intro (fun c46 => ?_) (fun c46 => ?_)
    · refine Ok_rt (dRpt hb9 hQ hk c29) ?_
      refine And.intro (nz c46) ?_
      refine Ok_rt (mk c29 c46) ?_
      refine And.intro (im c29 c46) ?_
      exact rt_mk (congrArg (fun q => some (vI q)) (by unfold sS; rw [if_pos c29, if_neg (Int.not_lt.mpr c46)])) rfl
    · exact rt_mk (congrArg (fun q => some (vI q)) (by unfold sS; rw [if_pos c29, if_pos c46])) rfl

theorem dSt (hb : isPl b) (hQ : QI h b D n p) (hk : k < md D n) (h1 : tp D k ≤ row) (h2 : row < tp D (k + 1)) : Ok 48 [vR b, vI row] (LC N) h (rt (some (vI (sS D k (row - tp D k)))) (LC N) h) := by
  rcases hb with rfl | rfl
  · exact dSt31 hQ hk h1 h2
  · exact dSt36 hQ hk h1 h2

theorem dShRow (hQ : QI h 31 D n p) (hk : k < md D n) (hi : 0 ≤ i ∧ i < shp D k) : Ok 52 [vR 31, vI (k : Int), vI i] (LC N) h (rt (some (vI (tp D k + ((i + 1) * kR D k).tdiv (shp D k) - 1))) (LC N) h) := by
  have hb9 : isPl 31 := Or.inl rfl
  have hm := (md_spec D n).1
  have hn := hQ.2.2.2.2
  have hR := (hQ.2.2.1 k (by omega)).2.2.2.1
  have hT := tp_bd hQ.2.2.1 k (by omega)
  have sb := shp_bd hQ.2.2.1 (show k < n by omega)
  have mb := mul_bd (a := i + 1) (b := kR D k) (A := 4100) (B := 2980) (by omega) (by omega) hR.1 hR.2
  have tb := td_bd (x := (i + 1) * kR D k) (y := shp D k) mb.1 (by omega)
  refine ok_body B_X3_shapingRow rfl (fun X hX => ?_)
  refine hX 31 [6] 0 _ _ _ _ _ _ ?_
  refine Ok_rt (dShp hb9 hQ hk) ?_
  show X 6 [_, _, _, _] _ _ _ _ _
  refine hX 31 [6] 6 _ _ _ _ _ _ ?_
  refine And.intro (fun c8 => ?_) (fun c8 => absurd c8 (by omega))
  refine Ok_rt (dFirst hb9 hQ hk) ?_
  refine And.intro ⟨by omega, by omega⟩ ?_
  refine Ok_rt (dRows hb9 hQ hk) ?_
  refine And.intro (show inR ((i + 1) * kR D k) from ⟨by omega, by omega⟩) ?_
  refine And.intro ⟨by omega, ⟨by omega, by omega⟩⟩ ?_
  refine And.intro ⟨by omega, by omega⟩ ?_
  refine And.intro ⟨by omega, by omega⟩ ?_
  exact rt_mk rfl rfl

end QUERY
