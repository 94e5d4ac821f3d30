/-! ===== Plan.knitsLike; KnitGrader.differences ===== -/
/-- the stitches behind a row, of the first m parts -/
def stR (D : KD) : Nat → Int → Int
  | 0, _ => 0
  | m + 1, r => if r < tp D m then stR D m r else sS D m (r - tp D m)
theorem stR_at {D : KD} {n : Nat} (hK : KOK D n) {k : Nat} {r : Int} (h1 : tp D k ≤ r) (h2 : r < tp D (k + 1)) : ∀ m : Nat, k < m → m ≤ n → stR D m r = sS D k (r - tp D k)
  | 0, h, _ => absurd h (Nat.not_lt_zero _)
  | m + 1, h, hm => by
    unfold stR
    by_cases z : k = m
    · subst z; rw [if_neg (Int.not_lt.mpr h1)]
    · rw [if_pos (by have := tp_le hK (show k + 1 ≤ m by omega) (by omega); omega)]
      exact stR_at hK h1 h2 m (by omega) (by omega)
/-- two knittings of one piece -/
def SameP (D E : KD) : Prop := ∀ k : Int, kK D k = kK E k ∧ kH D k = kH E k ∧ kP D k = kP E k ∧ kW D k = kW E k ∧ kN D k = kN E k ∧ ∀ i, kM D k i = kM E k i
/-- both are knitted alike -/
def likeK (D E : KD) (n : Nat) : Prop := fl D n = fl E n ∧ tp D (md D n) = tp E (md E n) ∧ ∀ r, 0 ≤ r → r < tp D (md D n) → stR D (md D n) r = stR E (md E n) r
theorem sS_same {D E : KD} (hS : SameP D E) {k : Nat} (h1 : kR D k = kR E k) (h2 : hv D k = hv E k) (h3 : hv D (k + 1) = hv E (k + 1)) (i : Int) : sS D k i = sS E k i := by
  obtain ⟨a, b, c, d, e, f⟩ := hS k
  have es : shp D k = shp E k := by unfold shp; rw [a, c, h2, h3]
  have er : rpt D k = rpt E k := by unfold rpt; rw [d, h2]
  unfold sS
  rw [b, e, er, f, es, h1, h2, h3, c]
theorem sS_even {D : KD} {k : Nat} (h1 : kH D k = -1) (h2 : shp D k = 0) (i : Int) : sS D k i = hv D (k + 1) := by
  unfold sS; rw [if_neg (fun z => z h1), if_pos h2]
section LIKE
variable {N : List CT} {h : HP} {b : Nat} {D E : KD} {n k l : Nat} {p r s : Int}
theorem dEven (hb : isPl b) (hQ : QI h b D n p) (hk : k < md D n) : Ok 62 [vR b, vI (k : Int)] (LC N) h (rt (some (vI (if kH D k = -1 ∧ shp D k = 0 then 1 else 0))) (LC N) h) := by
  rcases hb with rfl | rfl
  · have hb9 : isPl 31 := Or.inl rfl
    refine ok_body B_X3_isEven rfl (fun X hX => ?_)
    refine hX 30 [] 0 _ _ _ _ _ _ ?_
    refine Ok_rt (dfact8 hb9 hQ hk) ?_
    refine And.intro (fun c8 => ?_) (fun c8 => ?_)
    · exact And.intro ⟨by decide, by decide⟩ (rt_mk (by rw [if_neg (fun z => c8 z.1)]) rfl)
    · refine Ok_rt (dShp hb9 hQ hk) ?_
      refine And.intro (fun c16 => ?_) (fun c16 => ?_)
      · exact And.intro ⟨by decide, by decide⟩ (rt_mk (by rw [if_neg (fun z => c16 z.2)]) rfl)
      · exact And.intro ⟨by decide, by decide⟩ (rt_mk (by rw [if_pos ⟨c8, c16⟩]) rfl)
  · have hb9 : isPl 36 := Or.inr rfl
    refine ok_body B_X3_isEven rfl (fun X hX => ?_)
    refine hX 30 [] 0 _ _ _ _ _ _ ?_
    refine Ok_rt (dfact8 hb9 hQ hk) ?_
    refine And.intro (fun c8 => ?_) (fun c8 => ?_)
    · exact And.intro ⟨by decide, by decide⟩ (rt_mk (by rw [if_neg (fun z => c8 z.1)]) rfl)
    · refine Ok_rt (dShp hb9 hQ hk) ?_
      refine And.intro (fun c16 => ?_) (fun c16 => ?_)
      · exact And.intro ⟨by decide, by decide⟩ (rt_mk (by rw [if_neg (fun z => c16 z.2)]) rfl)
      · exact And.intro ⟨by decide, by decide⟩ (rt_mk (by rw [if_pos ⟨c8, c16⟩]) rfl)
theorem dIsPart (hQ : QI h 31 D n p) (hR : QI h 36 E n p) (hk : k < md D n) (hl : l < md E n) :
    Ok 63 [vR 31, vR 36, vI (k : Int), vI (l : Int)] (LC N) h (rt (some (vI (if ((k : Int) = l ∧ kR D k = kR E l) ∧ tp D (k + 1) = tp E (l + 1) ∧ hv D k = hv E l ∧ hv D (k + 1) = hv E (l + 1) then 1 else 0))) (LC N) h) := by
  have hb1 : isPl 31 := Or.inl rfl
  have hb2 : isPl 36 := Or.inr rfl
  refine ok_body B_X3_isPartOf rfl (fun X hX => ?_)
  refine hX 60 [] 0 _ _ _ _ _ _ ?_
  refine And.intro (fun c2 => ?_) (fun c2 => ?_)
  · exact And.intro ⟨by decide, by decide⟩ (rt_mk (by rw [if_neg (fun z => c2 z.1.1)]) rfl)
  refine Ok_rt (dRows hb1 hQ hk) ?_
  refine Ok_rt (dRows hb2 hR hl) ?_
  refine And.intro (fun c15 => ?_) (fun c15 => ?_)
  · exact And.intro ⟨by decide, by decide⟩ (rt_mk (by rw [if_neg (fun z => c15 z.1.2)]) rfl)
  refine Ok_rt (dBehind hb1 hQ hk) ?_
  refine Ok_rt (dBehind hb2 hR hl) ?_
  refine And.intro (fun c28 => ?_) (fun c28 => ?_)
  · exact And.intro ⟨by decide, by decide⟩ (rt_mk (by rw [if_neg (fun z => c28 z.2.1)]) rfl)
  refine Ok_rt (dAhead hb1 hQ hk) ?_
  refine Ok_rt (dAhead hb2 hR hl) ?_
  refine And.intro (fun c41 => ?_) (fun c41 => ?_)
  · exact And.intro ⟨by decide, by decide⟩ (rt_mk (by rw [if_neg (fun z => c41 z.2.2.1)]) rfl)
  refine Ok_rt (dAfter hb1 hQ hk) ?_
  refine Ok_rt (dAfter hb2 hR hl) ?_
  refine And.intro (fun c54 => ?_) (fun c54 => ?_)
  · exact And.intro ⟨by decide, by decide⟩ (rt_mk (by rw [if_neg (fun z => c54 z.2.2.2)]) rfl)
  · exact And.intro ⟨by decide, by decide⟩ (rt_mk (by rw [if_pos ⟨⟨c2, c15⟩, c28, c41, c54⟩]) rfl)
theorem dNext (hS : SameP D E) (hQ : QI h 31 D n p) (hR : QI h 36 E n p) (hk : k < md D n) (hl : l < md E n) (h1 : tp D k ≤ r) (h2 : r < tp D (k + 1)) (g1 : tp E l ≤ r) (g2 : r < tp E (l + 1)) (he : stR D (md D n) r = stR E (md E n) r) :
    Ok 61 [vR 31, vR 36, vI r] (LC N) h (fun o Λ' h' => ∃ x, o = .inl (some (vI x)) ∧ Λ' = LC N ∧ h' = h ∧ r < x ∧ x ≤ 100000 ∧ ∀ q, r ≤ q → q < x → stR D (md D n) q = stR E (md E n) q) := by
  have hb1 : isPl 31 := Or.inl rfl
  have hb2 : isPl 36 := Or.inr rfl
  have hm1 := (md_spec D n).1
  have hm2 := (md_spec E n).1
  have hn := hQ.2.2.2.2
  have t1 := tp_bd hQ.2.2.1 (k + 1) (by omega)
  have t2 := tp_bd hR.2.2.1 (l + 1) (by omega)
  have t0 := tp_bd hQ.2.2.1 k (by omega)
  have e1 : ∀ q, tp D k ≤ q → q < tp D (k + 1) → stR D (md D n) q = sS D k (q - tp D k) := fun q a b => stR_at hQ.2.2.1 a b _ hk hm1
  have e2 : ∀ q, tp E l ≤ q → q < tp E (l + 1) → stR E (md E n) q = sS E l (q - tp E l) := fun q a b => stR_at hR.2.2.1 a b _ hl hm2
  have last : ∃ x, r + 1 = x ∧ r < x ∧ x ≤ 100000 ∧ ∀ q, r ≤ q → q < x → stR D (md D n) q = stR E (md E n) q := by
    refine ⟨r + 1, rfl, by omega, by omega, fun q a b => ?_⟩
    have e : q = r := by omega
    rw [e]; exact he
  refine ok_body B_X3_nextToCompare rfl (fun X hX => ?_)
  have rest : X 45 [vR 31, vR 36, vI r, vI (k : Int), vI (l : Int)] [] (LC N) h 0 0 := by
    refine hX 30 [] 45 _ _ _ _ _ _ ?_
    refine Ok_rt (dIsPart hQ hR hk hl) ?_
    refine And.intro (fun c53 => ?_) (fun c53 => ?_)
    · refine And.intro ⟨by omega, by omega⟩ ?_
      obtain ⟨x, rfl, a, b, c⟩ := last
      exact ⟨_, rfl, rfl, rfl, a, b, c⟩
    · refine Ok_rt (dBehind hb1 hQ hk) ?_
      refine ⟨_, rfl, rfl, rfl, h2, by omega, fun q a b => ?_⟩
      by_cases z : ((k : Int) = l ∧ kR D k = kR E l) ∧ tp D (k + 1) = tp E (l + 1) ∧ hv D k = hv E l ∧ hv D (k + 1) = hv E (l + 1)
      · have hkl : k = l := by omega
        subst hkl
        have et : tp D k = tp E k := by
          have y1 : tp D (k + 1) = tp D k + kR D k := rfl
          have y2 : tp E (k + 1) = tp E k + kR E k := rfl
          omega
        rw [e1 q (by omega) b, e2 q (by omega) (by omega), et]
        exact sS_same hS z.1.2 z.2.2.1 z.2.2.2 _
      · rw [if_neg z] at c53
        exact absurd rfl c53
  refine hX 30 [45] 0 _ _ _ _ _ _ ?_
  refine Ok_rt (dPart hb1 hQ hk h1 h2) ?_
  refine Ok_rt (dPart hb2 hR hl g1 g2) ?_
  refine Ok_rt (dEven hb1 hQ hk) ?_
  refine And.intro (fun c18 => rest) (fun c18 => ?_)
  refine Ok_rt (dEven hb2 hR hl) ?_
  refine And.intro (fun c27 => rest) (fun c27 => ?_)
  refine Ok_rt (dBehind hb1 hQ hk) ?_
  refine Ok_rt (dBehind hb2 hR hl) ?_
  refine Ok_rt min_ok ?_
  by_cases z1 : kH D k = -1 ∧ shp D k = 0
  · by_cases z2 : kH E l = -1 ∧ shp E l = 0
    · refine ⟨_, rfl, rfl, rfl, by omega, by omega, fun q a b => ?_⟩
      have er : hv D (k + 1) = hv E (l + 1) := by
        have y := he
        rw [e1 r h1 h2, e2 r g1 g2, sS_even z1.1 z1.2, sS_even z2.1 z2.2] at y
        exact y
      rw [e1 q (by omega) (by omega), e2 q (by omega) (by omega), sS_even z1.1 z1.2, sS_even z2.1 z2.2]
      exact er
    · rw [if_neg z2] at c27
      exact absurd rfl c27
  · rw [if_neg z1] at c18
    exact absurd rfl c18
theorem dLike (hS : SameP D E) (hQ : QI h 31 D n p) (hR : QI h 36 E n p) :
    Ok 60 [vR 31, vR 36] (LC N) h (fun o Λ' h' => Λ' = LC N ∧ h' = h ∧ ((o = .inl (some (vI 1)) ∧ likeK D E n) ∨ (o = .inl (some (vI 0)) ∧ ¬ likeK D E n))) := by
  have hb1 : isPl 31 := Or.inl rfl
  have hb2 : isPl 36 := Or.inr rfl
  have hm1 := (md_spec D n).1
  have hm2 := (md_spec E n).1
  have hn := hQ.2.2.2.2
  have a8 := hQ.1.2.2.2.1
  have b8 := hR.1.2.2.2.1
  have a7 := hQ.1.2.2.1
  have b7 := hR.1.2.2.1
  have tb := tp_bd hQ.2.2.1 (md D n) hm1
  refine ok_body B_X3_knitsLike rfl (fun X hX => ?_)
  have loop : fl D n = fl E n → tp D (md D n) = tp E (md E n) → ∀ (m : Nat) (st rw9 : Int), 0 ≤ st → st ≤ rw9 → rw9 ≤ 100000 → tp D (md D n) - st = (m : Int) ∨ (m = 0 ∧ tp D (md D n) ≤ st) → (∀ r, 0 ≤ r → r < rw9 → stR D (md D n) r = stR E (md E n) r) → X 28 [vR 31, vR 36, vI rw9, vI st] [] (LC N) h 0 0 := by
    intro hf ht m
    induction m with
    | zero =>
      intro st rw9 h0 h1 h1b hm he
      refine hX 12 [] 28 _ _ _ _ _ _ ?_
      refine And.intro (fun c33 => ?_) (fun c33 => absurd c33 (by rw [a7]; omega))
      exact And.intro ⟨by decide, by decide⟩ ⟨rfl, rfl, Or.inl ⟨rfl, hf, ht, fun r r0 r1 => he r r0 (by omega)⟩⟩
    | succ m ih =>
      intro st rw9 h0 h1 h1b hm he
      refine hX 40 [28] 28 _ _ _ _ _ _ ?_
      refine And.intro (fun c33 => absurd c33 (by rw [a7]; omega)) (fun c33 => ?_)
      refine And.intro (fun c41 => ?_) (fun c41 => ?_)
      · have c41 : h 31 7 ≤ rw9 := c41
        rw [a7] at c41
        exact And.intro ⟨by decide, by decide⟩ ⟨rfl, rfl, Or.inl ⟨rfl, hf, ht, fun r r0 r1 => he r r0 (by omega)⟩⟩
      · have c41 : rw9 < h 31 7 := c41
        rw [a7] at c41
        obtain ⟨k, hk, k1, k2⟩ := row_part (D := D) (md D n) rw9 (by omega) c41
        obtain ⟨l, hl, l1, l2⟩ := row_part (D := E) (md E n) rw9 (by omega) (by omega)
        have e1 := stR_at hQ.2.2.1 k1 k2 _ hk hm1
        have e2 := stR_at hR.2.2.1 l1 l2 _ hl hm2
        refine Ok_rt (dSt hb1 hQ hk k1 k2) ?_
        refine Ok_rt (dSt hb2 hR hl l1 l2) ?_
        refine And.intro (fun c54 => ?_) (fun c54 => ?_)
        · refine Ok_mono (fun o' Λ' h' hpost => ?_) (dNext hS hQ hR hk hl k1 k2 l1 l2 (by rw [e1, e2]; exact c54))
          obtain ⟨x, rfl, rfl, rfl, x1, x2, x3⟩ := hpost
          refine And.intro ⟨by omega, by omega⟩ ?_
          refine ih (st + 1) x (by omega) (by omega) x2 (by omega) (fun r r0 r1 => ?_)
          by_cases z : r < rw9
          · exact he r r0 z
          · exact x3 r (by omega) r1
        · refine And.intro ⟨by decide, by decide⟩ ⟨rfl, rfl, Or.inr ⟨rfl, fun z => c54 ?_⟩⟩
          have := z.2.2 rw9 (by omega) c41
          rw [e1, e2] at this
          exact this
  refine hX 20 [28] 0 _ _ _ _ _ _ ?_
  refine And.intro (fun c8 => ?_) (fun c8 => ?_)
  · refine And.intro ⟨by decide, by decide⟩ ⟨rfl, rfl, Or.inr ⟨rfl, fun z => c8 ?_⟩⟩
    show h 31 8 = h 36 8
    rw [a8, b8]; exact z.1
  · have c8 : h 31 8 = h 36 8 := c8
    rw [a8, b8] at c8
    refine And.intro (fun c19 => ?_) (fun c19 => ?_)
    · have c19 : h 31 7 = h 36 7 := c19
      rw [a7, b7] at c19
      exact loop c8 c19 (tp D (md D n)).toNat 0 0 (by omega) (by omega) (by omega) (by omega) (fun r r0 r1 => by omega)
    · refine And.intro ⟨by decide, by decide⟩ ⟨rfl, rfl, Or.inr ⟨rfl, fun z => c19 ?_⟩⟩
      show h 31 7 = h 36 7
      rw [a7, b7]; exact z.2.1
end LIKE
