/-! ===== the model: a shape, row by row ===== -/
/-- the shaping rows up to q rows of R, of n -/
def dnF (n R q : Int) : Int := if n = 0 then 0 else ((q + 1) * n - 1) / R
theorem ediv_of {x R c : Int} (h0 : 0 < R) (h1 : c * R ≤ x) (h2 : x < c * R + R) : x / R = c := by
  refine Int.le_antisymm ?_ (Int.le_ediv_of_mul_le h0 h1)
  have : x / R < c + 1 := Int.ediv_lt_of_lt_mul h0 (by rw [Int.add_mul]; omega)
  omega
theorem dn_0 {n R : Int} (hn : 0 ≤ n) (hR : n ≤ R) : dnF n R 0 = 0 := by
  unfold dnF
  split
  · rfl
  · rw [show (0 + 1 : Int) * n - 1 = n - 1 by omega]
    exact Int.ediv_eq_zero_of_lt (by omega) (by omega)
theorem dn_bd {n R q : Int} (hn : 0 ≤ n) (hR : n ≤ R) (hq : 0 ≤ q) (hq2 : q ≤ R) : 0 ≤ dnF n R q ∧ dnF n R q ≤ n := by
  unfold dnF
  split
  · omega
  · have m1 : 0 ≤ q * n := Int.mul_nonneg hq hn
    have m2 : (q + 1) * n = q * n + n := by rw [Int.add_mul]; omega
    have m3 : q * n ≤ R * n := Int.mul_le_mul_of_nonneg_right hq2 hn
    refine ⟨Int.ediv_nonneg (by omega) (by omega), ?_⟩
    have : ((q + 1) * n - 1) / R < n + 1 := Int.ediv_lt_of_lt_mul (by omega) (by rw [Int.add_mul n, Int.mul_comm n R]; omega)
    omega
theorem dn_step {n R q : Int} (hn : 0 ≤ n) (hR : n ≤ R) (hq : 0 ≤ q) (hq2 : q < R) :
    (dnF n R q < n ∧ ((dnF n R q + 1) * R).tdiv n = q + 1 → dnF n R (q + 1) = dnF n R q + 1) ∧ (¬ (dnF n R q < n ∧ ((dnF n R q + 1) * R).tdiv n = q + 1) → dnF n R (q + 1) = dnF n R q) := by
  have bd := dn_bd hn hR hq (by omega)
  by_cases z : n = 0
  · subst z
    have e : ∀ x, dnF 0 R x = 0 := fun x => if_pos rfl
    rw [e, e]
    exact ⟨fun y => absurd y.1 (by omega), fun _ => rfl⟩
  · have eq : ∀ x, dnF n R x = ((x + 1) * n - 1) / R := fun x => if_neg z
    have e1 := Int.mul_ediv_add_emod ((q + 1) * n - 1) R
    have e2 := Int.emod_nonneg ((q + 1) * n - 1) (show R ≠ 0 by omega)
    have e3 := Int.emod_lt_of_pos ((q + 1) * n - 1) (show 0 < R by omega)
    rw [← eq q] at e1
    generalize dnF n R q = d at *
    have m2 : (q + 1 + 1) * n = (q + 1) * n + n := by rw [Int.add_mul (q + 1)]; omega
    have m3 : (d + 1) * R = R * d + R := by rw [Int.add_mul, Int.mul_comm d]; omega
    have m4 : (q + 1) * n ≤ R * n := Int.mul_le_mul_of_nonneg_right (by omega) hn
    have m5 : 0 ≤ R * d := Int.mul_nonneg (by omega) bd.1
    have m6 : 0 ≤ (q + 1) * n := Int.mul_nonneg (by omega) hn
    have td : ((d + 1) * R).tdiv n = ((d + 1) * R) / n := Int.tdiv_eq_ediv_of_nonneg (by omega)
    have step : (d + 1) * R ≤ (q + 1) * n + n - 1 → dnF n R (q + 1) = d + 1 := fun y => by
      rw [eq]
      refine ediv_of (by omega) (by omega) (by omega)
    have stay : ¬ (d + 1) * R ≤ (q + 1) * n + n - 1 → dnF n R (q + 1) = d := fun y => by
      rw [eq]
      have : d * R = R * d := Int.mul_comm _ _
      refine ediv_of (by omega) (by omega) (by omega)
    refine ⟨fun y => step ?_, fun y => stay (fun w => y ⟨?_, ?_⟩)⟩
    · have y2 := y.2
      rw [td] at y2
      have f1 := Int.mul_ediv_add_emod ((d + 1) * R) n
      have f3 := Int.emod_lt_of_pos ((d + 1) * R) (show 0 < n by omega)
      rw [y2, Int.mul_comm n] at f1
      omega
    · by_cases v : d < n
      · exact v
      · exfalso
        have m7 : R * n ≤ R * d := Int.mul_le_mul_of_nonneg_left (by omega) (by omega)
        omega
    · rw [td]
      exact ediv_of (by omega) (by omega) (by omega)
theorem up_dn {n R q : Int} (hn : 1 ≤ n) (hR : n ≤ R) (hq : 0 ≤ q) : upT q n R = dnF n R (q + 1) := by
  unfold upT dnF
  rw [if_neg (by omega), if_neg (by omega), show q + 2 = q + 1 + 1 by omega]
  have m : 0 ≤ (q + 1) * n := Int.mul_nonneg (by omega) (by omega)
  have m2 : (q + 1 + 1) * n = (q + 1) * n + n := by rw [Int.add_mul (q + 1)]; omega
  exact Int.tdiv_eq_ediv_of_nonneg (by omega)
theorem ab_0 {x : Int} (h : ab x = 0) : x = 0 := by unfold ab at h; split at h <;> omega
section MSHAPES
variable {M : List CT} {h : HP} {s p : Int} {k : Nat} {st : Nat → Int} {D : KD}
theorem m_shapes (hM : Cpl h) (hC : CI h) (hs : isSz h s) (hp : isPc h p) (hk : isPa h p k) (hB : StC (h 69) st) (hS : StOK st) (hD : D = cDr (h 22) (h 23) (h 24) (h 26) st s p) (hkd : kK D k = 2) (hr : h 50 39 = tp D k) :
    Ok 231 [vR 50, vI s, vI p, vI (k : Int), vI (hv D k)] (LL M) h (fun o Λ' h' => o = .inl none ∧ Λ' = LL M ∧ Kn1 h h' D k) := by
  have b0 := hC.1.1
  have bp := (hC.1.2.2.2.2.2 p hp.1 hp.2).1
  have s0 : 0 ≤ s ∧ s < 6 := ⟨hs.1, by have := hs.2; omega⟩
  have hK := cD_ok hC.1 hS s0 hp
  rw [← hD] at hK
  obtain ⟨n, hn⟩ : ∃ n : Nat, rd (h 25) 6 p = (n : Int) := ⟨(rd (h 25) 6 p).toNat, by omega⟩
  have hnn : (rd (h 25) 6 p).toNat = n := by omega
  rw [hnn] at hK
  have hkn : k < n := by have := hk.2; omega
  have pm := (hM.2.2.1 p hp.1 hp.2).2 k hk.1 hk.2
  have e0 : cF (h 26) p k 0 = kK D k := by rw [hD]; rfl
  have eR : cRw (h 22) (h 26) st s p k = kR D k := by rw [hD]; rfl
  have eG : cGl (h 26) st s p k = kG D k := by rw [hD]; rfl
  have eP : cF (h 26) p k 7 = kP D k := by rw [hD]; rfl
  have fr := m_rowsOf (M := M) hM hC hs hp hk hB hS (by omega)
  rw [eR] at fr
  have fc := m_countOf (M := M) hM hC hs hp hk hB hS (by omega)
  have eV : hv D (k + 1) = kG D k := by show (if kK D k = 1 then hv D k else kG D k) = kG D k; rw [if_neg (by omega)]
  rw [eG, ← eV] at fc
  have f6 := m_of (M := M) hM hC hp hk (w := 6) (by decide)
  rw [pm.2.2.2.1, eP] at f6
  have kk := hK k hkn
  have kR0 := kk.2.2.2.1
  have kP0 := kk.2.2.2.2.2.2.2.1 hkd
  have kH0 : kH D k = -1 := by
    rcases kk.2.2.2.2.2.2.1 with z | z
    · exact z
    · have := z.1; omega
  have hvb := hv_bd hK k (by omega)
  have hvc := hv_bd hK (k + 1) (by omega)
  have tr := tp_room hK (by omega) hkn
  clear kk pm hM hC hB hS e0 eR eG eP
  have ab1 := ab_bd (A := 4100) (x := hv D (k + 1) - hv D k) (by omega) (by omega)
  have sb := td_bd (x := ab (hv D (k + 1) - hv D k)) (y := kP D k) ab1.1 (by omega)
  have eS : shp D k = (ab (hv D (k + 1) - hv D k)).tdiv (kP D k) := (shp_eq hkd kP0.1).symm
  have sbT := sb
  rw [← eS] at sb
  refine ok_body B_X9_shapes rfl (fun X hX => ?_)
  have loop : (ab (hv D (k + 1) - hv D k)).tmod (kP D k) = 0 → shp D k ≤ kR D k → why D k = 0 → ∀ (m : Nat) (q : Int) (h1 : HP), 0 ≤ q → kR D k - q = (m : Int) → Sti (up h 50 41 0) h1 D k q →
      X 87 [vR 50, vI s, vI p, vI (k : Int), vI (hv D k), vI (kR D k), vI (hv D (k + 1)), vI (ab (hv D (k + 1) - hv D k)), vI (kP D k), vI (shp D k), vI (dnF (shp D k) (kR D k) q), vI (q + 1)] [] (LL M) h1 0 0 := by
    intro hmod hle hw0 m
    induction m with
    | zero =>
      intro q h1 hq hm hT
      have eq : q = kR D k := by omega
      subst eq
      refine hX 8 [] 87 _ _ _ _ _ _ ?_
      refine And.intro (fun c91 => ?_) (fun c91 => absurd c91 (by omega))
      have z := Kn1_of hT hw0 up_same
      refine ⟨rfl, rfl, fun c c1 c2 => ?_, fun q q1 q2 => ?_, z.2.2.1, z.2.2.2.1, fun y => absurd hw0 y, fun q hq => ?_⟩
      · rw [z.1 c c1 c2, up_cell c1]
      · rw [z.2.1 q q1 q2, up_ne q2]
      · rw [z.2.2.2.2.2 q hq, up_cell (by decide)]
    | succ m ih =>
      intro q h1 hq hm hT
      have t39 := hT.2.2.1
      have dn := dn_step (n := shp D k) (R := kR D k) (q := q) (by omega) hle hq (by omega)
      have db := dn_bd (n := shp D k) (R := kR D k) (q := q) (by omega) hle hq (by omega)
      have db2 := dn_bd (n := shp D k) (R := kR D k) (q := q + 1) (by omega) hle (by omega) (by omega)
      have fin : ∀ d, d = dnF (shp D k) (kR D k) (q + 1) → X 119 [vR 50, vI s, vI p, vI (k : Int), vI (hv D k), vI (kR D k), vI (hv D (k + 1)), vI (ab (hv D (k + 1) - hv D k)), vI (kP D k), vI (shp D k), vI d, vI (q + 1)] [] (LL M) h1 0 0 := by
        intro d hd
        subst hd
        have mb := mul_bd (a := dnF (shp D k) (kR D k) (q + 1)) (b := kP D k) (A := 4100) (B := 4) db2.1 (by omega) (by omega) (by omega)
        have last : ∀ v, v = sS D k q → X 153 [vR 50, vI s, vI p, vI (k : Int), vI (hv D k), vI (kR D k), vI (hv D (k + 1)), vI (ab (hv D (k + 1) - hv D k)), vI (kP D k), vI (shp D k), vI (dnF (shp D k) (kR D k) (q + 1)), vI (q + 1)] [vI v, vI (h1 50 39), vR 70] (LL M) h1 0 0 := by
          intro v hv1
          refine hX 20 [87] 153 _ _ _ _ _ _ ?_
          refine And.intro ⟨by omega, by omega⟩ ?_
          refine And.intro (by rw [up_cell (show (50 : Nat) ≠ 70 by decide)]; exact ⟨by omega, by omega⟩) ?_
          refine And.intro ⟨by omega, by omega⟩ ?_
          have e : up (up h1 70 (h1 50 39).toNat v) 50 39 (up h1 70 (h1 50 39).toNat v 50 39 + 1) = pushS h1 v := by unfold pushS; rw [up_cell (show (50 : Nat) ≠ 70 by decide)]
          have g := ih (q + 1) (pushS h1 v) (by omega) (by omega) (Sti_push hT tr.1 hq hv1)
          rw [← e] at g
          exact g
        have sv : shp D k = 0 → hv D (k + 1) = hv D k := fun z => by
          rw [eS] at z
          have e1 := Int.tmod_add_mul_tdiv (ab (hv D (k + 1) - hv D k)) (kP D k)
          rw [hmod, z, Int.mul_zero] at e1
          have := ab_0 e1.symm
          omega
        have uq : shp D k ≠ 0 → upT q (shp D k) (kR D k) = dnF (shp D k) (kR D k) (q + 1) := fun z => up_dn (by omega) hle hq
        refine hX 40 [153] 119 _ _ _ _ _ _ ?_
        refine And.intro (fun c131 => ?_) (fun c131 => ?_)
        · refine And.intro ⟨by omega, by omega⟩ ?_
          refine And.intro ⟨by omega, by omega⟩ ?_
          refine last _ ?_
          by_cases z : shp D k = 0
          · rw [sS_even kH0 z, z]
            have : dnF 0 (kR D k) (q + 1) = 0 := if_pos rfl
            rw [this, Int.zero_mul, sv z]; omega
          · unfold sS
            rw [if_neg (fun y => y kH0), if_neg z, uq z, Int.mul_comm (kP D k)]
            by_cases y : hv D k < hv D (k + 1)
            · rw [if_pos y]
            · exfalso
              apply z
              rw [eS, show hv D (k + 1) - hv D k = 0 by omega]
              exact Int.zero_tdiv _
        · refine And.intro ⟨by omega, by omega⟩ ?_
          refine And.intro ⟨by omega, by omega⟩ ?_
          refine last _ ?_
          have z : shp D k ≠ 0 := fun z => by have := sv z; omega
          unfold sS
          rw [if_neg (fun y => y kH0), if_neg z, uq z, Int.mul_comm (kP D k), if_neg (by omega)]
      refine hX 40 [119] 87 _ _ _ _ _ _ ?_
      refine And.intro (fun c91 => absurd c91 (by omega)) (fun c91 => ?_)
      refine And.intro (fun c98 => ?_) (fun c98 => ?_)
      · exact fin _ (dn.2 (fun y => absurd y.1 (by omega))).symm
      · have mb := mul_bd (a := dnF (shp D k) (kR D k) q + 1) (b := kR D k) (A := 4101) (B := 2980) (by omega) (by omega) (by omega) (by omega)
        have tb := td_bd (x := (dnF (shp D k) (kR D k) q + 1) * kR D k) (y := shp D k) mb.1 (by omega)
        refine And.intro ⟨by omega, by omega⟩ ?_
        refine And.intro ⟨by omega, by omega⟩ ?_
        refine And.intro ⟨by omega, by omega, by omega⟩ ?_
        refine And.intro (fun c113 => ?_) (fun c113 => ?_)
        · exact fin _ (dn.2 (fun y => c113 y.2)).symm
        · refine And.intro ⟨by omega, by omega⟩ ?_
          exact fin _ (dn.1 ⟨by omega, c113⟩).symm
  have f70 : ∀ (v : Int) (j10 j11 : PV), v = why D k → X 70 [vR 50, vI s, vI p, vI (k : Int), vI (hv D k), vI (kR D k), vI (hv D (k + 1)), vI (ab (hv D (k + 1) - hv D k)), vI (kP D k), vI (shp D k), j10, j11] [vI v, vR 50] (LL M) h 0 0 := by
    intro v j10 j11 hv1
    refine hX 20 [84, 87] 70 _ _ _ _ _ _ ?_
    refine And.intro (fun c77 => ?_) (fun c77 => ?_)
    · have c : up h 50 41 v 50 41 = 0 := c77
      rw [up_same] at c
      subst c
      have hw0 : why D k = 0 := hv1.symm
      have hmod : (ab (hv D (k + 1) - hv D k)).tmod (kP D k) = 0 := by
        by_cases y : (ab (hv D (k + 1) - hv D k)).tmod (kP D k) = 0
        · exact y
        · have : 1 = why D k := why_1 kH0 hkd kP0.1 y
          omega
      have hle : shp D k ≤ kR D k := by
        by_cases y : kR D k < shp D k
        · rw [eS] at y
          have : 2 = why D k := why_2 kH0 hkd kP0.1 hmod y
          omega
        · omega
      show X 84 [_, _, _, _, _, _, _, _, _, _, _, _] _ _ _ _ _
      refine hX 20 [87] 84 _ _ _ _ _ _ ?_
      have g := loop hmod hle hw0 (kR D k).toNat 0 (up h 50 41 0) (by omega) (by omega) ⟨fun c _ _ => rfl, fun j _ => rfl, by rw [up_ne (by decide)]; omega, fun i a b => absurd a (by omega), fun j _ => rfl⟩
      rw [dn_0 (by omega) hle] at g
      exact g
    · have c : up h 50 41 v 50 41 ≠ 0 := c77
      rw [up_same] at c
      exact ⟨rfl, rfl, Kn1_x hv1 (by rw [← hv1]; exact c)⟩
  refine hX 40 [9] 0 _ _ _ _ _ _ ?_
  refine Ok_rt fr ?_
  show X 9 [_, _, _, _, _, _, _, _, _, _, _, _] _ _ _ _ _
  refine hX 40 [18] 9 _ _ _ _ _ _ ?_
  refine Ok_rt fc ?_
  show X 18 [_, _, _, _, _, _, _, _, _, _, _, _] _ _ _ _ _
  refine hX 40 [28] 18 _ _ _ _ _ _ ?_
  refine And.intro ⟨by omega, by omega⟩ ?_
  refine Ok_rt (abs_ok (by omega) (by omega)) ?_
  show X 28 [_, _, _, _, _, _, _, vI (ab (hv D (k + 1) - hv D k)), _, _, _, _] _ _ _ _ _
  refine hX 40 [38] 28 _ _ _ _ _ _ ?_
  refine Ok_rt f6 ?_
  show X 38 [_, _, _, _, _, _, _, _, _, _, _, _] _ _ _ _ _
  refine hX 40 [45] 38 _ _ _ _ _ _ ?_
  refine And.intro ⟨by omega, by omega, by omega⟩ ?_
  rw [← eS]
  show X 45 [_, _, _, _, _, _, _, _, _, _, _, _] _ _ _ _ _
  refine hX 40 [70] 45 _ _ _ _ _ _ ?_
  refine And.intro (by omega) ?_
  refine And.intro (fun c51 => ?_) (fun c51 => ?_)
  · refine And.intro (fun c62 => ?_) (fun c62 => ?_)
    · exact f70 _ _ _ (why_0 kH0 hkd kP0.1 c51 (by rw [← eS]; omega))
    · exact f70 _ _ _ (why_2 kH0 hkd kP0.1 c51 (by rw [← eS]; omega))
  · exact f70 _ _ _ (why_1 kH0 hkd kP0.1 c51)
end MSHAPES
