/-! ===== Dealer: costs, dealings, needs ===== -/
theorem pI {P : Int → Prop} {a b : Int} (e : a = b) (h : P b) : P a := e ▸ h
theorem sub_le {t s : Nat} (h : sub t s = true) : t ≤ s := by
  have e : t &&& s = t := beq_iff_eq.mp h
  rw [← e]; exact Nat.and_le_right
section DEALER2
variable {N : List CT} {h : HP} {n s nd : Nat} {j lot room B : Int} {c sn sp : Nat → Int}
theorem costW_ok (hs : s < 64) (hl : 0 ≤ lot ∧ lot ≤ 9) (hB : 0 ≤ B ∧ B ≤ 270000000) (hc : ∀ q : Nat, q ≤ s → rd (h 45) 64 q = c q) (hsn : ∀ q : Nat, q ≤ s → rd (h 43) 64 q = sn q) (hsp : ∀ q : Nat, q ≤ s → rd (h 44) 64 q = sp q)
    (hcb : ∀ q, q ≤ s → c q = NOD ∨ (0 ≤ c q ∧ c q ≤ B)) (hspb : ∀ q, q ≤ s → 0 ≤ sp q ∧ sp q ≤ 1118481) :
    Ok 15 [vR 41, vI lot, vL room, vI (s : Int)] (LC N) h (rt (some (vI (cW c sn sp lot room s))) (LC N) h) := by
  refine ok_body B_X1_costWith rfl (fun X hX => ?_)
  have loop : ∀ (m t : Nat) (a : Int) (j7 j8 : PV), t + m = s + 1 → 1 ≤ t → cWf c sn sp lot room s m t a = cW c sn sp lot room s → X 14 [vR 41, vI lot, vL room, vU, vI (s : Int), vI a, vI (t : Int), j7, j8] [] (LC N) h 0 0 := by
    intro m
    induction m with
    | zero =>
      intro t a j7 j8 ht h1 he
      refine hX 8 [] 14 _ _ _ _ _ _ ?_
      refine And.intro (fun c18 => ?_) (fun c18 => absurd c18 (by omega))
      exact rt_mk (congrArg (fun z => some (vI z)) (by rw [← he]; rfl)) rfl
    | succ m ih =>
      intro t a j7 j8 ht h1 he
      have hts : t ≤ s := by omega
      have i1 : inR ((t : Int) + 1) := ⟨by omega, by omega⟩
      have hsb := ii_sub s hs t (by omega)
      have e1 := hsn t hts
      have e2 := hsp t hts
      have b2 := hspb t hts
      refine hX 60 [14] 14 _ _ _ _ _ _ ?_
      refine And.intro (fun c18 => absurd c18 (by omega)) (fun c18 => ?_)
      refine And.intro (fun c28 => ?_) (fun c28 => ?_)
      · refine And.intro i1 ?_
        exact ih (t + 1) a _ _ (by omega) (by omega) (by rw [← he, cWf, if_neg (fun z => c28 (hsb.mpr z.1))])
      · have hsub := hsb.mp c28
        have hx := ii_xor s hs t (by omega) hsub
        have e3 := hc (s - t) (by omega)
        have b3 := hcb (s - t) (by omega)
        refine Ok_rt (atL_ok (a := 43) (len := 64) rfl (by decide)) ?_
        refine And.intro (fun c42 => ?_) (fun c42 => ?_)
        · have c42 : rd (h 43) 64 (t : Int) ≤ room := c42
          rw [e1] at c42
          refine Ok_rt (at_ok (a := 45) (len := 64) rfl (by decide)) ?_
          have e4 : rdA h 45 64 (ixorI (s : Int) (t : Int)) = c (s - t) := by rw [hx.1]; exact e3
          rw [e4]
          refine And.intro (fun c66 => ?_) (fun c66 => ?_)
          · refine And.intro i1 ?_
            exact ih (t + 1) a _ _ (by omega) (by omega) (by rw [← he, cWf, if_neg (fun z => z.2.2 c66)])
          · have b4 : 0 ≤ c (s - t) ∧ c (s - t) ≤ B := by rcases b3 with z | z; exact absurd z c66; exact z
            have m1 := mul_bd (a := lot) (b := sp t) (A := 9) (B := 1118481) hl.1 hl.2 b2.1 b2.2
            refine And.intro (show inR (c (s - t) + 16777216) from ⟨by omega, by omega⟩) ?_
            refine Ok_rt (at_ok (a := 44) (len := 64) rfl (by decide)) ?_
            have e5 : rdA h 44 64 (t : Int) = sp t := e2
            rw [e5]
            refine And.intro (show inR (lot * sp t) from ⟨by omega, by omega⟩) ?_
            refine And.intro (show inR (c (s - t) + 16777216 + lot * sp t) from ⟨by omega, by omega⟩) ?_
            refine Ok_rt min_ok ?_
            refine And.intro i1 ?_
            exact ih (t + 1) _ _ _ (by omega) (by omega) (by rw [← he, cWf, if_pos ⟨hsub, c42, c66⟩])
        · have c42 : room < rd (h 43) 64 (t : Int) := c42
          rw [e1] at c42
          refine And.intro i1 ?_
          exact ih (t + 1) a _ _ (by omega) (by omega) (by rw [← he, cWf, if_neg (fun z => absurd z.2.1 (Int.not_le.mpr c42))])
  refine hX 20 [14] 0 _ _ _ _ _ _ ?_
  refine Ok_rt (at_ok (a := 45) (len := 64) rfl (by decide)) ?_
  have e0 : rdA h 45 64 (s : Int) = c s := hc s (Nat.le_refl _)
  rw [e0]
  exact loop s 1 (c s) _ _ (by omega) (by omega) rfl
theorem offer_ok (hn : nd < 64) (hl : 0 ≤ lot ∧ lot ≤ 9) (hB : 0 ≤ B ∧ B ≤ 270000000) (hc : ∀ q : Nat, q ≤ nd → rd (h 45) 64 q = c q) (hsn : ∀ q : Nat, q ≤ nd → rd (h 43) 64 q = sn q) (hsp : ∀ q : Nat, q ≤ nd → rd (h 44) 64 q = sp q)
    (hcb : ∀ q, q ≤ nd → c q = NOD ∨ (0 ≤ c q ∧ c q ≤ B)) (hspb : ∀ q, q ≤ nd → 0 ≤ sp q ∧ sp q ≤ 1118481) :
    Ok 14 [vR 41, vI lot, vL room, vI (nd : Int)] (LC N) h (fun o Λ' h' => o = .inl none ∧ Λ' = LC N ∧ (∀ q, q ≠ 45 → h' q = h q) ∧ ∀ q : Nat, q ≤ nd → rd (h' 45) 64 q = oL c sn sp lot room nd q) := by
  refine ok_body B_X1_offerLot rfl (fun X hX => ?_)
  have loop : ∀ (cur : Nat) (h1 : HP), cur ≤ nd → (∀ q, q ≠ 45 → h1 q = h q) → (∀ q : Nat, q ≤ nd → rd (h1 45) 64 q = if cur < q ∧ sub q nd = true then cW c sn sp lot room q else c q) → X 4 [vR 41, vI lot, vL room, vU, vI (nd : Int), vI (cur : Int)] [] (LC N) h1 0 0 := by
    intro cur
    induction cur with
    | zero =>
      intro h1 hcu hF hA
      refine hX 8 [] 4 _ _ _ _ _ _ ?_
      refine And.intro (fun c6 => ?_) (fun c6 => absurd c6 (by omega))
      refine ⟨rfl, rfl, hF, fun q hq => ?_⟩
      rw [hA q hq]
      unfold oL
      by_cases z : 0 < q ∧ sub q nd = true
      · rw [if_pos z, if_pos ⟨z.1, hq, z.2⟩]
      · rw [if_neg z, if_neg (fun y => z ⟨y.1, y.2.2⟩)]
    | succ cur ih =>
      intro h1 hcu hF hA
      have hsb := ii_sub nd hn (cur + 1) (by omega)
      have i1 : inR (((cur + 1 : Nat) : Int) + (-1)) := ⟨by omega, by omega⟩
      refine hX 40 [4] 4 _ _ _ _ _ _ ?_
      refine And.intro (fun c6 => absurd c6 (by omega)) (fun c6 => ?_)
      refine And.intro (fun c16 => ?_) (fun c16 => ?_)
      · refine And.intro i1 ?_
        refine pI (P := fun z => X 4 [vR 41, vI lot, vL room, vU, vI (nd : Int), vI z] [] (LC N) h1 0 0) (show ((cur + 1 : Nat) : Int) + (-1) = (cur : Int) by omega) ?_
        refine ih h1 (by omega) hF (fun q hq => ?_)
        rw [hA q hq]
        by_cases z : q = cur + 1
        · have : ¬ sub q nd = true := fun y => c16 (hsb.mpr (z ▸ y))
          rw [if_neg (fun y => this y.2), if_neg (fun y => this y.2)]
        · by_cases y : cur < q ∧ sub q nd = true
          · rw [if_pos y, if_pos ⟨by omega, y.2⟩]
          · rw [if_neg y, if_neg (fun x => y ⟨by omega, x.2⟩)]
      · have hsub := hsb.mp c16
        have hcc : ∀ q : Nat, q ≤ cur + 1 → rd (h1 45) 64 q = c q := fun q hq => by rw [hA q (by omega), if_neg (by omega)]
        have cok := costW_ok (N := N) (h := h1) (s := cur + 1) (lot := lot) (room := room) (B := B) (c := c) (sn := sn) (sp := sp) (by omega) hl hB hcc (fun q hq => by rw [hF 43 (by decide)]; exact hsn q (by omega)) (fun q hq => by rw [hF 44 (by decide)]; exact hsp q (by omega)) (fun q hq => hcb q (by omega)) (fun q hq => hspb q (by omega))
        refine Ok_rt cok ?_
        refine Ok_rt (put_ok (a := 45) (len := 64) rfl (by decide)) ?_
        refine And.intro i1 ?_
        refine pI (P := fun z => X 4 [vR 41, vI lot, vL room, vU, vI (nd : Int), vI z] [] (LC N) (wrA h1 45 64 ((cur + 1 : Nat) : Int) (cW c sn sp lot room (cur + 1))) 0 0) (show ((cur + 1 : Nat) : Int) + (-1) = (cur : Int) by omega) ?_
        refine ih _ (by omega) (fun q hq => ?_) (fun q hq => ?_)
        · rw [wrA_cell hq]; exact hF q hq
        · rw [← rd_A, rdA_wrA]
          by_cases z : q = cur + 1
          · subst z
            rw [if_pos ⟨by omega, by omega, rfl⟩, if_pos ⟨by omega, hsub⟩]
          · rw [if_neg (fun y => z (by have := y.2.2; omega)), rd_A, hA q hq]
            by_cases y : cur < q ∧ sub q nd = true
            · rw [if_pos y, if_pos ⟨by omega, y.2⟩]
            · rw [if_neg y, if_neg (fun x => y ⟨by omega, x.2⟩)]
  refine hX 5 [4] 0 _ _ _ _ _ _ ?_
  refine loop nd h (Nat.le_refl _) (fun _ _ => rfl) (fun q hq => ?_)
  rw [if_neg (by omega)]; exact hc q hq
theorem bestD_ok (hS : StOK (h 28)) (hn : rd (h 21) 4 3 = (n : Int)) (hn6 : n ≤ 6) (hj : 0 ≤ j ∧ j ≤ 3) (hw : ∀ q : Nat, q < n → -10000000000000 ≤ wN (h 42) j q ∧ wN (h 42) j q ≤ 10000000000000) :
    Ok 12 [vR 41, vR 27, vI j] (LC N) h (fun o Λ' h' => o = .inl (some (vI (bD (h 42) (h 28) n j))) ∧ Λ' = LC N ∧ ∀ q, (q ≠ 43 ∧ q ≠ 44 ∧ q ≠ 45) → h' q = h q) := by
  obtain ⟨-, -, -, q4, q5, q6, -, -⟩ := id hS
  obtain ⟨nd, hnd⟩ : ∃ nd, nd = NM (wN (h 42) j) n := ⟨_, rfl⟩
  obtain ⟨sn, hsn0⟩ : ∃ sn, sn = SN (wN (h 42) j) n := ⟨_, rfl⟩
  obtain ⟨sp, hsp0⟩ : ∃ sp, sp = SN pw n := ⟨_, rfl⟩
  obtain ⟨L, hL⟩ : ∃ L : Nat, rd (h 28) 132 3 = (L : Int) := ⟨(rd (h 28) 132 3).toNat, by omega⟩
  have hbD : bD (h 42) (h 28) n j = CL (h 28) j sn sp nd L nd := by unfold bD; rw [← hnd, ← hsn0, ← hsp0, hL]; rfl
  have hnd2 : nd < 2 ^ n := by rw [hnd]; exact NM_lt _ _
  have h64 := two_pow_le6 hn6
  have spb : ∀ q, q < 64 → 0 ≤ sp q ∧ sp q ≤ 1118481 := by
    have : ∀ k, k ≤ 6 → ∀ q, q < 64 → 0 ≤ SN pw k q ∧ SN pw k q ≤ 1118481 := by decide +kernel
    intro q hq; rw [hsp0]; exact this n hn6 q hq
  have clb := CL_bd (st := h 28) (col := j) (sn := sn) (sp := sp) (nd := nd) spb (by omega)
  refine ok_body B_X1_bestDealing rfl (fun X hX => ?_)
  rw [hbD] at hX
  have lots : ∀ (m l : Nat) (h1 : HP) (j7 j8 : PV), l + m = L → (∀ q, (q ≠ 43 ∧ q ≠ 44 ∧ q ≠ 45) → h1 q = h q) → (∀ q : Nat, q ≤ nd → rd (h1 43) 64 q = sn q) → (∀ q : Nat, q ≤ nd → rd (h1 44) 64 q = sp q) → (∀ q : Nat, q ≤ nd → rd (h1 45) 64 q = CL (h 28) j sn sp nd l q) →
      X 62 [vR 41, vR 27, vI j, vI (n : Int), vI (nd : Int), vI (L : Int), vI (l : Int), j7, j8] [] (LC N) h1 0 0 := by
    intro m
    induction m with
    | zero =>
      intro l h1 j7 j8 hl hF h43 h44 h45
      have el : l = L := by omega
      subst el
      refine hX 12 [] 62 _ _ _ _ _ _ ?_
      refine And.intro (fun c66 => ?_) (fun c66 => absurd c66 (by omega))
      refine Ok_rt (at_ok (a := 45) (len := 64) rfl (by decide)) ?_
      exact ⟨congrArg (fun z => Sum.inl (some (vI z))) (h45 nd (Nat.le_refl _)), rfl, hF⟩
    | succ m ih =>
      intro l h1 j7 j8 hl hF h43 h44 h45
      have e28 : h1 28 = h 28 := hF 28 (by decide)
      have i1 : inR ((l : Int) + 1) := ⟨by omega, by omega⟩
      have lc := lotColor_ok (N := N) (h := h1) (i := (l : Int)) (o := 27) (Or.inr (Or.inl rfl)) ⟨by omega, by omega⟩
      have lm := lotMeters_ok (N := N) (h := h1) (i := (l : Int)) (o := 27) (Or.inr (Or.inl rfl)) ⟨by omega, by omega⟩
      have ec : rdA h1 (27 + 1) 132 (4 + (l : Int)) = rd (h 28) 132 (4 + (l : Int)) := by rw [← e28]; rfl
      have em : rdA h1 (27 + 1) 132 (14 + (l : Int)) = rd (h 28) 132 (14 + (l : Int)) := by rw [← e28]; rfl
      rw [ec] at lc
      rw [em] at lm
      have mb := q6 (14 + (l : Int)) (by omega) (by omega)
      refine hX 40 [62] 62 _ _ _ _ _ _ ?_
      refine And.intro (fun c66 => absurd c66 (by omega)) (fun c66 => ?_)
      refine Ok_rt lc ?_
      refine And.intro (fun c76 => ?_) (fun c76 => ?_)
      · refine And.intro i1 ?_
        refine ih (l + 1) h1 _ _ (by omega) hF h43 h44 (fun q hq => ?_)
        rw [h45 q hq, CL, if_neg c76]
      · refine Ok_rt lm ?_
        refine And.intro (show inRL (1000 * rd (h 28) 132 (14 + (l : Int))) from ⟨by omega, by omega⟩) ?_
        refine Ok_mono (fun o' Λ' h' hp => ?_) (offer_ok (N := N) (h := h1) (nd := nd) (lot := (l : Int)) (room := 1000 * rd (h 28) 132 (14 + (l : Int))) (B := 27000000 * l) (c := CL (h 28) j sn sp nd l) (sn := sn) (sp := sp) (by omega) ⟨by omega, by omega⟩ ⟨by omega, by omega⟩ h45 h43 h44 (fun q hq => clb l (by omega) q (by omega)) (fun q hq => spb q (by omega)))
        obtain ⟨rfl, rfl, hF2, hA2⟩ := hp
        refine And.intro i1 ?_
        refine ih (l + 1) h' _ _ (by omega) (fun q hq => by rw [hF2 q hq.2.2]; exact hF q hq) (fun q hq => by rw [hF2 43 (by decide)]; exact h43 q hq) (fun q hq => by rw [hF2 44 (by decide)]; exact h44 q hq) (fun q hq => ?_)
        rw [hA2 q hq, CL, if_pos c76]
  have init : ∀ (m t : Nat) (h1 : HP) (j6 j7 j8 : PV), t + m = nd + 1 → 1 ≤ t → (∀ q, (q ≠ 43 ∧ q ≠ 44 ∧ q ≠ 45) → h1 q = h q) → (∀ q : Nat, q ≤ nd → rd (h1 43) 64 q = sn q) → (∀ q : Nat, q ≤ nd → rd (h1 44) 64 q = sp q) → (∀ q : Nat, 1 ≤ q → q < t → rd (h1 45) 64 q = NOD) →
      X 20 [vR 41, vR 27, vI j, vI (n : Int), vI (nd : Int), vI (t : Int), j6, j7, j8] [] (LC N) h1 0 0 := by
    intro m
    induction m with
    | zero =>
      intro t h1 j6 j7 j8 ht h1t hF h43 h44 h45
      refine hX 20 [62] 20 _ _ _ _ _ _ ?_
      refine And.intro (fun c24 => ?_) (fun c24 => absurd c24 (by omega))
      refine Ok_rt (put_ok (a := 45) (len := 64) rfl (by decide)) ?_
      have lt := lots_ok (N := N) (h := wrA h1 45 64 0 0) (o := 27) (Or.inr (Or.inl rfl))
      have el : rdA (wrA h1 45 64 0 0) (27 + 1) 132 3 = (L : Int) := by
        rw [rdA_wrA_oth (by decide), rd_A, show h1 (27 + 1) = h 28 from hF 28 (by decide)]; exact hL
      rw [el] at lt
      refine Ok_rt lt ?_
      refine lots L 0 _ _ _ (by omega) (fun q hq => by rw [wrA_cell hq.2.2]; exact hF q hq) (fun q hq => ?_) (fun q hq => ?_) (fun q hq => ?_)
      · rw [wrA_cell (by decide)]; exact h43 q hq
      · rw [wrA_cell (by decide)]; exact h44 q hq
      · rw [← rd_A, rdA_wrA]
        unfold CL
        by_cases z : q = 0
        · subst z; rw [if_pos ⟨by decide, by decide, rfl⟩, if_pos rfl]
        · rw [if_neg (fun y => z (by have := y.2.2; omega)), if_neg z]
          exact h45 q (by omega) (by omega)
    | succ m ih =>
      intro t h1 j6 j7 j8 ht h1t hF h43 h44 h45
      refine hX 20 [20] 20 _ _ _ _ _ _ ?_
      refine And.intro (fun c24 => absurd c24 (by omega)) (fun c24 => ?_)
      refine Ok_rt (put_ok (a := 45) (len := 64) rfl (by decide)) ?_
      refine And.intro ⟨by omega, by omega⟩ ?_
      refine ih (t + 1) _ _ _ _ (by omega) (by omega) (fun q hq => by rw [wrA_cell hq.2.2]; exact hF q hq) (fun q hq => ?_) (fun q hq => ?_) (fun q hq1 hq2 => ?_)
      · rw [wrA_cell (by decide)]; exact h43 q hq
      · rw [wrA_cell (by decide)]; exact h44 q hq
      · rw [← rd_A, rdA_wrA]
        by_cases z : q = t
        · subst z; rw [if_pos ⟨by omega, by omega, rfl⟩]; rfl
        · rw [if_neg (fun y => z (by have := y.2.2; omega))]
          exact h45 q hq1 (by omega)
  refine hX 20 [20] 0 _ _ _ _ _ _ ?_
  refine Ok_rt (total_ok (Or.inr rfl)) ?_
  have et : rdA h (19 + 2) 4 3 = (n : Int) := hn
  rw [et]
  refine Ok_mono (fun o' Λ' h' hp => ?_) (addUp_ok (N := N) (h := h) (n := n) (j := j) hn6 hj hw)
  obtain ⟨rfl, rfl, hF, hA⟩ := hp
  rw [← hnd]
  refine init nd 1 h' _ _ _ (by omega) (by omega) (fun q hq => hF q ⟨hq.1, hq.2.1⟩) (fun q hq => by rw [hsn0]; exact (hA q (by omega)).1) (fun q hq => by rw [hsp0]; exact (hA q (by omega)).2) (fun q a b => absurd b (by omega))

end DEALER2
