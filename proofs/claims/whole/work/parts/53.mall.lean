/-! ===== the model: knitsAll, dealsOf ===== -/
def FrA (h h' : HP) : Prop := (∀ x, x ≠ 50 → x ≠ 69 → x ≠ 70 → x ≠ 71 → x ≠ 72 → h' x = h x) ∧ ∀ q, q ≠ 39 → q ≠ 40 → q ≠ 41 → h' 50 q = h 50 q
theorem sCol_step (D : KD) (c : Int) (k : Nat) : sCol D c (k + 1) 0 0 = if kC D k = c then sCol D c k 0 0 + sO D k else sCol D c k 0 0 := by
  rw [sCol_sum, sCol_sum]
  show 0 + (sumN (fun j => if kC D ((0 + j : Nat) : Int) = c then sO D (0 + j) else 0) k + (if kC D ((0 + k : Nat) : Int) = c then sO D (0 + k) else 0)) = _
  rw [Nat.zero_add]
  split <;> omega
theorem sCol_pos {D : KD} {n : Nat} (hK : KOK D n) (c : Int) : ∀ k : Nat, k ≤ md D n → 0 ≤ sCol D c k 0 0 ∧ sCol D c k 0 0 ≤ 150000000 * (k : Int)
  | 0, _ => by unfold sCol; omega
  | k + 1, hk => by
    have a := sCol_pos hK c k (by omega)
    have msp := md_spec D n
    have kR0 := (hK k (by omega)).2.2.2.1
    have b := sumN_bd (f := fun q => sS D k q) (B := 49200) (m := (kR D k).toNat) (fun j hj => sS_bd hK (by omega) (msp.2.1 k (by omega)) (by omega) (by omega))
    rw [sO_sum hK (by omega) (msp.2.1 k (by omega))] at b
    rw [sCol_step]
    split <;> omega
theorem nCol_pos {h : HP} {s p c : Int} (hC : CI h) (hs : isSz h s) (hp : isPc h p) : 0 ≤ nCol h s p c ∧ nCol h s p c ≤ 10000000000000 := by
  have kk := KOK_h hC hs hp
  have m := (md_spec (gD h s p) (gN h p)).1
  have a := sCol_pos kk.1 c (md (gD h s p) (gN h p)) (Nat.le_refl _)
  have y := hC.2.2.2.1
  have mb := mul_bd (a := sCol (gD h s p) c (md (gD h s p) (gN h p)) 0 0) (b := rd (h 28) 132 2) (A := 1500000000) (B := 99) a.1 (by omega) (by omega) y.2
  unfold nCol
  omega
theorem fl_0 (D : KD) (n : Nat) : (if md D n < n then why D (md D n) else 0) = 0 ↔ fl D n = 0 := by
  have b := why_bd D (md D n)
  unfold fl
  by_cases z : md D n < n
  · have w : why D (md D n) ≠ 0 := by
      rcases (md_spec D n).2.2 with y | y
      · omega
      · exact y
    rw [if_pos z, if_pos z]
    exact ⟨fun y => absurd y w, fun y => by omega⟩
  · rw [if_neg z, if_neg z]
section MALL
variable {M : List CT} {h : HP} {s p c x : Int} {n : Nat}
theorem m_knitsAll (hC : CI h) (hM : Cpl h) (hs : isSz h s) (hn : rd (h 21) 4 3 = (n : Int)) :
    Ok 250 [vR 50, vI s] (LL M) h (fun o Λ' h' => Λ' = LL M ∧ FrA h h' ∧ (∃ x, o = .inl (some (vI x)) ∧ bI x (allK h s n)) ∧ ∀ q c : Nat, q < n → c < 4 → h' 72 (4 * q + c) = nCol h s q c) := by
  have n6 : n ≤ 6 := by have := hC.1.2.2.2.1; omega
  have e4 : h 50 4 = (n : Int) := by rw [hM.1.2.2.2]; exact hn
  have yb := hC.2.2.2.1
  refine ok_body B_X9_knitsAll rfl (fun X hX => ?_)
  have isP : ∀ q : Nat, q < n → isPc h q := fun q hq => ⟨by omega, by omega⟩
  have tr : ∀ h1, FrA h h1 → Cpl h1 ∧ CI h1 ∧ (∀ s p, gD h1 s p = gD h s p) ∧ (∀ p, gN h1 p = gN h p) ∧ h1 21 = h 21 ∧ h1 25 = h 25 ∧ h1 50 4 = (n : Int) := by
    intro h1 f
    have e : ∀ c, c < 50 → h1 c = h c := fun c hc => f.1 c (by omega) (by omega) (by omega) (by omega) (by omega)
    have e2 : ∀ c, 51 ≤ c → c ≤ 68 → h1 c = h c := fun c hc hc2 => f.1 c (by omega) (by omega) (by omega) (by omega) (by omega)
    exact ⟨Cpl_fr hM (fun c a b => e c (by omega)) (fun c a b => e2 c a (by omega)) (fun j a b => f.2 j (by omega) (by omega) (by omega)), CI_fr hC (fun c a b => e c (by omega)),
      fun s p => gD_of (e 22 (by decide)) (e 23 (by decide)) (e 24 (by decide)) (e 26 (by decide)) (e 28 (by decide)) s p, fun p => gN_of (e 25 (by decide)) p, e 21 (by decide), e 25 (by decide), by rw [f.2 4 (by decide) (by decide) (by decide)]; exact e4⟩
  have loop : ∀ (m q : Nat) (h1 : HP) (b : Int) (j4 : PV), q + m = n → FrA h h1 → StC (h1 69) (h 28) → bI b (allK h s q) → (∀ q' c : Nat, q' < q → c < 4 → h1 72 (4 * q' + c) = nCol h s q' c) →
      X 8 [vR 50, vI s, vI b, vI (q : Int), j4] [] (LL M) h1 0 0 := by
    intro m
    induction m with
    | zero =>
      intro q h1 b j4 hq f e69 hb hnd
      have eq : q = n := by omega
      subst eq
      have t := (tr h1 f).2.2.2.2.2.2
      refine hX 20 [] 8 _ _ _ _ _ _ ?_
      refine And.intro (fun c13 => ?_) (fun c13 => absurd c13 (by omega))
      exact And.intro (by rcases hb with ⟨-, rfl⟩ | ⟨-, rfl⟩ <;> exact ⟨by decide, by decide⟩) ⟨rfl, f, ⟨b, rfl, hb⟩, hnd⟩
    | succ m ih =>
      intro q h1 b j4 hq f e69 hb hnd
      obtain ⟨t1, t2, t3, t4, t5, t6, t7⟩ := tr h1 f
      have ip := isP q (by omega)
      have kk := KOK_h hC hs ip
      have gn : rd (h1 25) 6 (q : Int) = ((gN h q : Nat) : Int) := by rw [t6]; unfold gN; have := (hC.1.2.2.2.2.2 q ip.1 ip.2).1; omega
      have gd : gD h s q = cDr (h1 22) (h1 23) (h1 24) (h1 26) (h 28) s q := by
        unfold gD
        rw [f.1 22 (by decide) (by decide) (by decide) (by decide) (by decide), f.1 23 (by decide) (by decide) (by decide) (by decide) (by decide), f.1 24 (by decide) (by decide) (by decide) (by decide) (by decide), f.1 26 (by decide) (by decide) (by decide) (by decide) (by decide)]
      have kn := m_knits (M := M) (h := h1) (s := s) (p := (q : Int)) (n := gN h q) (st := h 28) (D := gD h s q) t1 t2 (by unfold isSz; rw [t5]; exact hs) (by unfold isPc; rw [t5]; exact ip) e69 hC.2 gd gn
      refine hX 40 [38] 8 _ _ _ _ _ _ ?_
      refine And.intro (fun c13 => absurd c13 (by omega)) (fun c13 => ?_)
      refine Ok_mono (fun o' Λ' h2 hpost => ?_) kn
      obtain ⟨rfl, rfl, f2, hI⟩ := hpost
      have f3 : FrA h h2 := ⟨fun x x0 x1 x2 x3 x4 => by rw [f2.1 x x0 x2 x3]; exact f.1 x x0 x1 x2 x3 x4, fun q q0 q1 q2 => by rw [f2.2 q q0 q1 q2]; exact f.2 q q0 q1 q2⟩
      have i41 := hI.2.2.1
      have e69b : StC (h2 69) (h 28) := by rw [f2.1 69 (by decide) (by decide) (by decide)]; exact e69
      have hnd2 : ∀ q' c : Nat, q' < q → c < 4 → h2 72 (4 * q' + c) = nCol h s q' c := fun q' c a1 a2 => by rw [f2.1 72 (by decide) (by decide) (by decide)]; exact hnd q' c a1 a2
      -- the needs of a piece
      have inner : ∀ (mc c : Nat) (h3 : HP) (b : Int), c + mc = 4 → FrA h h3 → StC (h3 69) (h 28) → KnIs h3 (gD h s q) (gN h q) → bI b (allK h s (q + 1)) → (∀ q' c' : Nat, (q' < q ∨ (q' = q ∧ c' < c)) → c' < 4 → h3 72 (4 * q' + c') = nCol h s q' c') →
          X 42 [vR 50, vI s, vI b, vI (q : Int), vI (c : Int)] [] (LL M) h3 0 0 := by
        intro mc
        induction mc with
        | zero =>
          intro c h3 b hc f3 e69 hI hb hnd3
          have ec : c = 4 := by omega
          subst ec
          refine hX 20 [8] 42 _ _ _ _ _ _ ?_
          refine And.intro (fun _ => ?_) (fun c45 => absurd c45 (by omega))
          refine And.intro ⟨by omega, by omega⟩ ?_
          exact ih (q + 1) h3 b _ (by omega) f3 e69 hb (fun q' c' a1 a2 => hnd3 q' c' (by omega) a2)
        | succ mc ihc =>
          intro c h3 b hc f3 e69 hI hb hnd3
          obtain ⟨u1, u2, u3, u4, u5, u6, u7⟩ := tr h3 f3
          have y := e69.1.2.2.1
          rw [rd_in (by decide) (by decide)] at y
          have hof : ∀ k : Nat, k < gN h q → Ok 223 [vR 50, vI (q : Int), vI (k : Int), vI 1] (LL M) h3 (rt (some (vI (kC (gD h s q) k))) (LL M) h3) := fun k hk => by
            have z := of_col (M := M) (s := s) u2 u1 (FrM_rf h3) (p := (q : Int)) (k := k) (by unfold isPc; rw [u5]; exact ip) (by rw [u4]; exact hk)
            rw [u3] at z
            exact z
          refine hX 40 [42] 42 _ _ _ _ _ _ ?_
          refine And.intro (fun c45 => absurd c45 (by omega)) (fun c45 => ?_)
          refine And.intro ⟨by omega, by omega⟩ ?_
          refine And.intro ⟨by omega, by omega⟩ ?_
          refine Ok_rt (m_needOf (M := M) (c := (c : Int)) (p := (q : Int)) kk.1 kk.2.2 hI hof y (by omega) (by omega)) ?_
          refine And.intro ⟨by omega, by omega⟩ ?_
          refine And.intro ⟨by omega, by omega⟩ ?_
          have et : (4 * (q : Int) + (c : Int)).toNat = 4 * q + c := by omega
          rw [et]
          refine ihc (c + 1) _ b (by omega) ⟨fun x x0 x1 x2 x3 x4 => by rw [up_cell x4]; exact f3.1 x x0 x1 x2 x3 x4, fun q q0 q1 q2 => by rw [up_cell (by decide)]; exact f3.2 q q0 q1 q2⟩ (by rw [up_cell (by decide)]; exact e69) ?_ hb (fun q' c' a1 a2 => ?_)
          · unfold KnIs at *
            rw [up_cell (show (50 : Nat) ≠ 72 by decide), up_cell (show (70 : Nat) ≠ 72 by decide), up_cell (show (71 : Nat) ≠ 72 by decide)]
            exact hI
          · by_cases z : 4 * q' + c' = 4 * q + c
            · have e1 : q' = q := by omega
              have e2 : c' = c := by omega
              subst e1 e2
              rw [up_same]; rfl
            · rw [up_ne z]
              exact hnd3 q' c' (by omega) a2
      have go38 : ∀ v, bI v (allK h s (q + 1)) → X 38 [vR 50, vI s, vI b, vI (q : Int), j4] [vI v] (LL M) h2 0 0 := by
        intro v hv1
        refine hX 20 [39, 42] 38 _ _ _ _ _ _ ?_
        show X 39 [_, _, _, _, _] _ _ _ _ _
        refine hX 20 [42] 39 _ _ _ _ _ _ ?_
        exact inner 4 0 h2 v (by omega) f3 e69b hI hv1 (fun q' c' a1 a2 => hnd2 q' c' (by omega) a2)
      have allS : allK h s (q + 1) ↔ allK h s q ∧ fl (gD h s q) (gN h q) = 0 := ⟨fun z => ⟨fun q' hq' => z q' (by omega), z q (by omega)⟩, fun z q' hq' => by
        by_cases y : q' = q
        · rw [y]; exact z.2
        · exact z.1 q' (by omega)⟩
      refine And.intro (fun c23 => ?_) (fun c23 => ?_)
      · refine go38 0 (Or.inr ⟨fun z => ?_, rfl⟩)
        rcases hb with ⟨-, hb⟩ | ⟨hb, -⟩
        · rw [hb] at c23; exact absurd c23 (by decide)
        · exact hb (allS.mp z).1
      · refine And.intro (fun c30 => ?_) (fun c30 => ?_)
        · refine go38 0 (Or.inr ⟨fun z => ?_, rfl⟩)
          have c30 : h2 50 41 ≠ 0 := c30
          exact c30 (by rw [i41]; exact (fl_0 _ _).mpr (allS.mp z).2)
        · have c30 : h2 50 41 = 0 := c30
          refine go38 1 (Or.inl ⟨allS.mpr ⟨?_, (fl_0 _ _).mp (by rw [← i41]; exact c30)⟩, rfl⟩)
          rcases hb with ⟨hb, -⟩ | ⟨-, hb⟩
          · exact hb
          · exact absurd hb c23
  have e69 : ∀ q, rd (byF 57 69 132 0 h 69) 132 q = rd (h 57) 132 q := fun q => byNow_rd q
  refine hX 40 [6, 8] 0 _ _ _ _ _ _ ?_
  refine Ok_rt m_byNow ?_
  show X 6 [_, _, _, _, _] _ _ _ _ _
  refine hX 20 [8] 6 _ _ _ _ _ _ ?_
  exact loop n 0 _ 1 _ (by omega) ⟨fun x x0 x1 x2 x3 x4 => byF_cell x1 _ _ _, fun q q0 q1 q2 => by rw [byF_cell (by decide)]⟩ (StC_by e69 hM.2.2.2) (Or.inl ⟨fun q hq => absurd hq (Nat.not_lt_zero _), rfl⟩) (fun q' c a1 => absurd a1 (Nat.not_lt_zero _))
end MALL
section MDOF
variable {M : List CT} {h : HP} {c : Int} {st w : Nat → Int} {np L : Nat}
theorem FrD4_tr {h h1 h2 : HP} (a : FrD4 h h1) (b : FrD4 h1 h2) : FrD4 h h2 := ⟨fun x x0 x1 x2 x3 => by rw [b.1 x x0 x1 x2 x3, a.1 x x0 x1 x2 x3], fun q hq => by rw [b.2 q hq, a.2 q hq]⟩
def bC (st w : Nat → Int) (c : Int) (np L : Nat) : Int := CL st c (SN w np) (SN pw np) (NM w np) L (NM w np)
theorem m_dealsOf (hD : DlC h st c w np L) : Ok 254 [vR 50, vI c] (LL M) h (fun o Λ' h' => Λ' = LL M ∧ FrD4 h h' ∧ ((o = .inl (some (vI (-1))) ∧ bC st w c np L = NOD) ∨
    ∃ (most : Int) (d : Nat → Nat), (0 ≤ most ∧ most ≤ 6) ∧ o = .inl (some (vI most)) ∧ bC st w c np L ≠ NOD ∧ bC st w c np L / 16777216 = most ∧ (∀ p, p < np → 0 < w p → bC st w c np L / 16 ^ (5 - p) % 16 = (d (wi w p) : Int)) ∧ h' 50 46 = (wi w np : Int) ∧ ∀ i, i < wi w np → h' 75 i = (wp w np i : Int) ∧ h' 74 i = (d i : Int))) := by
  obtain ⟨⟨hL, hL10⟩, hlot, ⟨hnp, hnp6⟩, hc, hw0, hwn⟩ := id hD
  refine ok_body B_X9_dealsOf rfl (fun X hX => ?_)
  have loop : ∀ (f : Nat) (m : Int) (h1 : HP), 7 - m = (f : Int) → 0 ≤ m → FrD4 h h1 → (∀ m', 0 ≤ m' → m' < m → ∀ e, ¬ Vd st c w np L m' e) → X 2 [vR 50, vI c, vI m] [] (LL M) h1 0 0 := by
    intro f
    induction f with
    | zero =>
      intro m h1 hf hm0 hF hno
      have em : m = 7 := by omega
      subst em
      refine hX 20 [] 2 _ _ _ _ _ _ ?_
      refine And.intro (fun _ => ?_) (fun c5 => absurd c5 (by decide))
      refine And.intro (fun c26 => absurd c26 (by decide)) (fun _ => ?_)
      exact ⟨rfl, hF, Or.inl ⟨rfl, deal_none hnp6 hL10 (fun p _ => (hw0 p).1) (hno 6 (by decide) (by decide))⟩⟩
    | succ f ih =>
      intro m h1 hf hm0 hF hno
      have dl : DlC h1 st c w np L := DlC_of hD (hF.1 57 (by decide) (by decide) (by decide) (by decide)) (hF.1 72 (by decide) (by decide) (by decide) (by decide)) (hF.2 4 (by decide))
      refine hX 20 [2] 2 _ _ _ _ _ _ ?_
      refine And.intro (fun c5 => absurd c5 (by omega)) (fun c5 => ?_)
      refine Ok_mono (fun o' Λ' h2 hpost => ?_) (m_deals (M := M) dl (most := m) (by omega))
      obtain ⟨rfl, hF2, h46, h75, hor⟩ := hpost
      rcases hor with ⟨rfl, d, d1, d2, d3⟩ | ⟨rfl, hno2⟩
      · have de := deal_eq hnp6 hL10 (fun p _ => (hw0 p).1) hm0 d1 d2 hno
        refine And.intro (fun _ => ?_) (fun c14 => absurd c14 (by decide))
        refine And.intro (fun _ => ?_) (fun c26 => absurd c26 (by omega))
        exact ⟨rfl, FrD4_tr hF hF2, Or.inr ⟨m, d, by omega, rfl, de.1, de.2.1, de.2.2, h46, fun i hi => ⟨h75 i hi, d3 i hi⟩⟩⟩
      · refine And.intro (fun c14 => absurd rfl c14) (fun _ => ?_)
        refine And.intro ⟨by omega, by omega⟩ ?_
        refine ih (m + 1) h2 (by omega) (by omega) (FrD4_tr hF hF2) (fun m' a1 a2 => ?_)
        by_cases z : m' = m
        · rw [z]; exact hno2
        · exact hno m' a1 (by omega)
  refine hX 10 [2] 0 _ _ _ _ _ _ ?_
  exact loop 7 0 h (by omega) (by omega) ⟨fun _ _ _ _ _ => rfl, fun _ _ => rfl⟩ (fun m' a1 a2 => by omega)
end MDOF
