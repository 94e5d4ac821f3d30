/-! ===== KnitGrader: lots ===== -/
/-- all pieces of a size can be knitted -/
def allK (h : HP) (s : Int) (n : Nat) : Prop := ∀ q : Nat, q < n → fl (gD h s q) (gN h q) = 0
theorem nCol_bd {h : HP} (hC : CI h) {s p c : Int} (hs : isSz h s) (hp : isPc h p) : -10000000000000 ≤ nCol h s p c ∧ nCol h s p c ≤ 10000000000000 := by
  have hs6 : 0 ≤ s ∧ s < 6 := ⟨hs.1, by have := hC.1.1; have := hs.2; omega⟩
  have hK : KOK (gD h s p) (gN h p) := cD_ok hC.1 hC.2 hs6 hp
  have hn := (hC.1.2.2.2.2.2 p hp.1 hp.2).1
  have hn1 : gN h p ≤ 10 := by unfold gN; omega
  have mdn := (md_spec (gD h s p) (gN h p)).1
  have hyn := hC.2.2.2.1
  have sb := sCol_bd (c := c) hK (md (gD h s p) (gN h p)) 0 0 (by omega) (by omega) (by omega)
  have mb := mul_bd (a := sCol (gD h s p) c (md (gD h s p) (gN h p)) 0 0 + 3000000000) (b := rd (h 28) 132 2) (A := 23000000000) (B := 99) (by omega) (by omega) (by omega) (by omega)
  rw [Int.add_mul] at mb
  unfold nCol
  omega
/-- the needs as the dealer has them, by its row; whatever stands behind the pieces -/
def NdOK (h : HP) (s : Int) (n : Nat) (nd : Nat → Int) : Prop := ∀ q c : Nat, q < n → c < 4 → wN nd c q = nCol h s q c
section LOTS
variable {N : List CT} {h : HP} {s p c i : Int} {n : Nat}
theorem wN_bd {nd : Nat → Int} (hC : CI h) (hs : isSz h s) (hn : rd (h 21) 4 3 = (n : Int)) (hN : NdOK h s n nd) : ∀ j, 0 ≤ j → j ≤ 3 → ∀ q : Nat, q < n → -10000000000000 ≤ wN nd j q ∧ wN nd j q ≤ 10000000000000 := by
  intro j j0 j1 q hq
  obtain ⟨m, rfl⟩ := Int.eq_ofNat_of_zero_le j0
  have e := hN q m hq (by omega)
  rw [e]
  exact nCol_bd hC hs ⟨by omega, by omega⟩
/-- behind gather: the core stands, the needs are known -/
theorem K_gather (hC : CI h) (hs : isSz h s) (hn : rd (h 21) 4 3 = (n : Int)) :
    Ok 7 [vR 41, vR 27, vI s] (LC N) h (fun o Λ' h' => Λ' = LC N ∧ FrQ h h' ∧ ((o = .inl (some (vI 1)) ∧ allK h s n ∧ NdOK h s n (h' 42)) ∨ (o = .inl (some (vI 0)) ∧ ¬ allK h s n))) := by
  have hs6 : 0 ≤ s ∧ s < 6 := ⟨hs.1, by have := hC.1.1; have := hs.2; omega⟩
  refine Ok_mono (fun o' Λ' h' hpost => ?_) (gather_ok (N := N) hC.1 hC.2 hs6 hn)
  obtain ⟨rfl, hF, ho⟩ := hpost
  refine ⟨rfl, fun q hq => hF q (by unfold scr; omega), ?_⟩
  rcases ho with ⟨a, b, d⟩ | ⟨a, q, b, d⟩
  · exact Or.inl ⟨a, b, d⟩
  · exact Or.inr ⟨a, fun z => d (z q b)⟩
/-- what is dealt: by the dealer's row nd -/
def dlC (h : HP) (n : Nat) (c p : Int) (nd : Nat → Int) : Int := if 0 < wN nd c p.toNat then iandI (ishrI (bD nd (h 28) n c) (4 * (5 - p))) 15 else -1
theorem K_dealt (hC : CI h) (hs : isSz h s) (hp : isPc h p) (hc : 0 ≤ c ∧ c ≤ 3) (hn : rd (h 21) 4 3 = (n : Int)) :
    Ok 151 [vR 1, vI s, vI p, vI c] (LC N) h (fun o Λ' h' => Λ' = LC N ∧ FrQ h h' ∧ ((¬ allK h s n ∧ o = .inr 1) ∨ (allK h s n ∧ ∃ nd, NdOK h s n nd ∧ ((bD nd (h 28) n c = NOD ∧ o = .inr 4) ∨ (bD nd (h 28) n c ≠ NOD ∧ o = .inl (some (vI (dlC h n c p nd)))))))) := by
  have hn6 : n ≤ 6 := by have := hC.1.2.2.2.1; omega
  have hp6 : 0 ≤ p ∧ p < 6 := ⟨hp.1, by have := hp.2; omega⟩
  refine ok_body B_X8_dealt rfl (fun X hX => ?_)
  refine hX 80 [] 0 _ _ _ _ _ _ ?_
  refine Ok_rt tot_ok ?_
  refine Ok_rt (ckI_ok hs) ?_
  refine Ok_rt tot_ok ?_
  refine Ok_rt (ckI_ok hp) ?_
  refine Ok_rt (ckR_ok hc) ?_
  refine Ok_mono (fun o' Λ' h' hpost => ?_) (K_gather hC hs hn)
  obtain ⟨rfl, hF, ho⟩ := hpost
  rcases ho with ⟨rfl, ha, hN⟩ | ⟨rfl, ha⟩
  · refine And.intro (fun c42 => ?_) (fun c42 => absurd c42 (by decide))
    have e28 : h' 28 = h 28 := hF 28 (by omega)
    have e21 : h' 21 = h 21 := hF 21 (by omega)
    have bd := bestD_ok (N := N) (h := h') (n := n) (j := c) (by rw [e28]; exact hC.2) (by rw [e21]; exact hn) hn6 hc (wN_bd hC hs hn hN c hc.1 hc.2)
    rw [e28] at bd
    refine Ok_mono (fun o' Λ' h2 hpost => ?_) bd
    obtain ⟨rfl, rfl, hF2⟩ := hpost
    have hF3 : FrQ h h2 := fun q hq => by rw [hF2 q ⟨by omega, by omega, by omega⟩]; exact hF q hq
    refine And.intro (fun c71 => ?_) (fun c71 => ?_)
    · have e42 : h2 42 = h' 42 := hF2 42 (by decide)
      have no := needOf_ok (N := N) (h := h2) (i := p) (j := c) (by omega) (by omega)
      have ew : rd (h2 42) 24 (p * 4 + c) = wN (h' 42) c p.toNat := by
        rw [e42]; unfold wN; rw [show ((p.toNat : Nat) : Int) = p by omega]
      rw [ew] at no
      refine Ok_rt no ?_
      refine And.intro (fun c93 => ?_) (fun c93 => ?_)
      · have c93 : wN (h' 42) c p.toNat ≤ 0 := c93
        exact ⟨rfl, hF3, Or.inr ⟨ha, h' 42, hN, Or.inr ⟨c71, by unfold dlC; rw [if_neg (Int.not_lt.mpr c93)]⟩⟩⟩
      · have c93 : 0 < wN (h' 42) c p.toNat := c93
        refine Ok_rt (lotIn_ok (by omega)) ?_
        exact ⟨rfl, hF3, Or.inr ⟨ha, h' 42, hN, Or.inr ⟨c71, by unfold dlC; rw [if_pos c93]⟩⟩⟩
    · exact ⟨rfl, hF3, Or.inr ⟨ha, h' 42, hN, Or.inl ⟨c71, rfl⟩⟩⟩
  · refine And.intro (fun c42 => absurd rfl c42) (fun c42 => ?_)
    exact ⟨rfl, hF, Or.inl ⟨ha, rfl⟩⟩
theorem K_dealt_x (hx : ¬ (isSz h s ∧ isPc h p)) : Ok 151 [vR 1, vI s, vI p, vI c] (LC N) h (ex 2 (LC N) h) := by
  refine ok_body B_X8_dealt rfl (fun X hX => ?_)
  refine hX 80 [] 0 _ _ _ _ _ _ ?_
  refine Ok_rt tot_ok ?_
  by_cases z : isSz h s
  · refine Ok_rt (ckI_ok z) ?_
    refine Ok_rt tot_ok ?_
    refine Ok_ex (ckI_ex (fun w => hx ⟨z, w⟩)) ?_
    exact ⟨rfl, rfl, rfl⟩
  · refine Ok_ex (ckI_ex z) ?_
    exact ⟨rfl, rfl, rfl⟩
theorem K_dealt_c (hs : isSz h s) (hp : isPc h p) (hc : ¬ (0 ≤ c ∧ c ≤ 3)) : Ok 151 [vR 1, vI s, vI p, vI c] (LC N) h (ex 3 (LC N) h) := by
  refine ok_body B_X8_dealt rfl (fun X hX => ?_)
  refine hX 80 [] 0 _ _ _ _ _ _ ?_
  refine Ok_rt tot_ok ?_
  refine Ok_rt (ckI_ok hs) ?_
  refine Ok_rt tot_ok ?_
  refine Ok_rt (ckI_ok hp) ?_
  refine Ok_ex (ckR_ex hc) ?_
  exact ⟨rfl, rfl, rfl⟩
theorem K_lotsUsed (hC : CI h) (hs : isSz h s) (hn : rd (h 21) 4 3 = (n : Int)) :
    Ok 152 [vR 1, vI s] (LC N) h (fun o Λ' h' => Λ' = LC N ∧ FrQ h h' ∧ ((¬ allK h s n ∧ o = .inr 1) ∨ (allK h s n ∧ ∃ nd, NdOK h s n nd ∧ ((lAF nd (h 28) n 4 0 0 = -1 ∧ o = .inr 4) ∨ (lAF nd (h 28) n 4 0 0 ≠ -1 ∧ o = .inl (some (vI (lAF nd (h 28) n 4 0 0)))))))) := by
  have hn6 : n ≤ 6 := by have := hC.1.2.2.2.1; omega
  refine ok_body B_X8_lotsUsed rfl (fun X hX => ?_)
  refine hX 60 [] 0 _ _ _ _ _ _ ?_
  refine Ok_rt tot_ok ?_
  refine Ok_rt (ckI_ok hs) ?_
  refine Ok_mono (fun o' Λ' h' hpost => ?_) (K_gather hC hs hn)
  obtain ⟨rfl, hF, ho⟩ := hpost
  rcases ho with ⟨rfl, ha, hN⟩ | ⟨rfl, ha⟩
  · refine And.intro (fun c24 => ?_) (fun c24 => absurd c24 (by decide))
    have e28 : h' 28 = h 28 := hF 28 (by omega)
    have e21 : h' 21 = h 21 := hF 21 (by omega)
    have la := lotsOfAll_ok (N := N) (h := h') (n := n) (by rw [e28]; exact hC.2) (by rw [e21]; exact hn) hn6 (wN_bd hC hs hn hN)
    rw [e28] at la
    refine Ok_mono (fun o' Λ' h2 hpost => ?_) la
    obtain ⟨rfl, rfl, hF2⟩ := hpost
    have hF3 : FrQ h h2 := fun q hq => by rw [hF2 q ⟨by omega, by omega, by omega⟩]; exact hF q hq
    refine And.intro (fun c49 => ?_) (fun c49 => ?_)
    · exact ⟨rfl, hF3, Or.inr ⟨ha, h' 42, hN, Or.inr ⟨c49, rfl⟩⟩⟩
    · exact ⟨rfl, hF3, Or.inr ⟨ha, h' 42, hN, Or.inl ⟨c49, rfl⟩⟩⟩
  · refine And.intro (fun c24 => absurd rfl c24) (fun c24 => ?_)
    exact ⟨rfl, hF, Or.inl ⟨ha, rfl⟩⟩
theorem K_lotsUsed_x (hx : ¬ isSz h s) : Ok 152 [vR 1, vI s] (LC N) h (ex 2 (LC N) h) := by
  refine ok_body B_X8_lotsUsed rfl (fun X hX => ?_)
  refine hX 60 [] 0 _ _ _ _ _ _ ?_
  refine Ok_rt tot_ok ?_
  refine Ok_ex (ckI_ex hx) ?_
  exact ⟨rfl, rfl, rfl⟩
/-- the set of sizes in R, of m sizes from t on, laid upon a -/
def orF (R : Nat → Prop) : Nat → Nat → Int → Int → Prop
  | 0, _, a, r => r = a
  | m + 1, t, a, r => (R t ∧ orF R m (t + 1) (iorI a (ishlI 1 t)) r) ∨ (¬ R t ∧ orF R m (t + 1) a r)
/-- a size that can be knitted, by the class's dealer -/
def canK (h : HP) (n : Nat) (s : Nat) : Prop := allK h s n ∧ ∀ nd, NdOK h s n nd → lAF nd (h 28) n 4 0 0 ≠ -1
/-- dealings depend on the pieces' needs alone -/
theorem CL_congr {st : Nat → Int} {col : Int} {sn sn' sp : Nat → Int} {nd : Nat} (e : sn = sn') : CL st col sn sp nd = CL st col sn' sp nd := by rw [e]
theorem SN_congr {w w' : Nat → Int} : ∀ (t : Nat), (∀ q, q < t → w q = w' q) → ∀ s, SN w t s = SN w' t s
  | 0, _, _ => rfl
  | t + 1, h, s => by
    have ih := SN_congr t (fun q hq => h q (by omega))
    unfold SN
    rw [ih, ih, h t (by omega)]
theorem NM_congr {w w' : Nat → Int} : ∀ (t : Nat), (∀ q, q < t → w q = w' q) → NM w t = NM w' t
  | 0, _ => rfl
  | t + 1, h => by
    have ih := NM_congr t (fun q hq => h q (by omega))
    unfold NM
    rw [ih, h t (by omega)]
theorem bD_congr {nd nd' st : Nat → Int} {n : Nat} {c : Int} (h : ∀ q : Nat, q < n → wN nd c q = wN nd' c q) : bD nd st n c = bD nd' st n c := by
  have e1 : SN (wN nd c) n = SN (wN nd' c) n := funext fun s => SN_congr n h s
  have e2 := NM_congr (w := wN nd c) (w' := wN nd' c) n h
  unfold bD
  rw [e1, e2]
theorem lAF_congr {nd nd' st : Nat → Int} {n : Nat} (h : ∀ q c : Nat, q < n → c < 4 → wN nd c q = wN nd' c q) : ∀ (m c : Nat) (a : Int), c + m ≤ 4 → lAF nd st n m c a = lAF nd' st n m c a
  | 0, _, _, _ => rfl
  | m + 1, c, a, hc => by
    have e := bD_congr (st := st) (c := (c : Int)) (fun q hq => h q c hq (by omega))
    unfold lAF
    rw [e, lAF_congr h m (c + 1) _ (by omega)]
theorem K_possible (hC : CI h) (hn : rd (h 21) 4 3 = (n : Int)) {ns : Nat} (hns : rd (h 21) 4 0 = (ns : Int)) :
    Ok 153 [vR 1] (LC N) h (fun o Λ' h' => Λ' = LC N ∧ FrQ h h' ∧ ∃ r, o = .inl (some (vI r)) ∧ orF (canK h n) ns 0 0 r) := by
  have hn6 : n ≤ 6 := by have := hC.1.2.2.2.1; omega
  have hs6 := hC.1.1
  refine ok_body B_X8_possible rfl (fun X hX => ?_)
  have loop : ∀ (m t : Nat) (a : Int) (h1 : HP), t + m = ns → FrQ h h1 → (∀ r, orF (canK h n) m t a r → orF (canK h n) ns 0 0 r) → X 13 [vR 1, vI (ns : Int), vI a, vI (t : Int)] [] (LC N) h1 0 0 := by
    intro m
    induction m with
    | zero =>
      intro t a h1 ht hF he
      refine hX 8 [] 13 _ _ _ _ _ _ ?_
      refine And.intro (fun c15 => ?_) (fun c15 => absurd c15 (by omega))
      exact ⟨rfl, hF, a, rfl, he a rfl⟩
    | succ m ih =>
      intro t a h1 ht hF he
      have es : isSz h (t : Int) := ⟨by omega, by omega⟩
      have e21 : h1 21 = h 21 := hF 21 (by omega)
      have e22 : h1 22 = h 22 := hF 22 (by omega)
      have e23 : h1 23 = h 23 := hF 23 (by omega)
      have e24 : h1 24 = h 24 := hF 24 (by omega)
      have e25 : h1 25 = h 25 := hF 25 (by omega)
      have e26 : h1 26 = h 26 := hF 26 (by omega)
      have e28 : h1 28 = h 28 := hF 28 (by omega)
      have hC1 : CI h1 := by unfold CI; rw [e21, e22, e23, e24, e25, e26, e28]; exact hC
      have es1 : isSz h1 (t : Int) := by unfold isSz; rw [e21]; exact es
      have eD : ∀ s q, gD h1 s q = gD h s q := fun s q => by unfold gD; rw [e22, e23, e24, e26, e28]
      have eN : ∀ q, gN h1 q = gN h q := fun q => by unfold gN; rw [e25]
      have eA : allK h1 (t : Int) n ↔ allK h (t : Int) n := by unfold allK; simp only [eD, eN]
      have eNd : ∀ nd, NdOK h1 (t : Int) n nd ↔ NdOK h (t : Int) n nd := fun nd => by unfold NdOK nCol; simp only [eD, eN, e28]
      have i1 : inR ((t : Int) + 1) := ⟨by omega, by omega⟩
      refine hX 40 [13] 13 _ _ _ _ _ _ ?_
      refine And.intro (fun c15 => absurd c15 (by omega)) (fun c15 => ?_)
      refine Ok_mono (fun o' Λ' h' hpost => ?_) (K_gather (n := n) hC1 es1 (by rw [e21]; exact hn))
      obtain ⟨rfl, hF2, ho⟩ := hpost
      have hF3 : FrQ h h' := fun q hq => by rw [hF2 q hq]; exact hF q hq
      rcases ho with ⟨rfl, ha, hN⟩ | ⟨rfl, ha⟩
      · refine And.intro (fun c30 => absurd c30 (by decide)) (fun c30 => ?_)
        have e28' : h' 28 = h 28 := hF3 28 (by omega)
        have e21' : h' 21 = h 21 := hF3 21 (by omega)
        have hN2 := (eNd _).mp hN
        have la := lotsOfAll_ok (N := N) (h := h') (n := n) (by rw [e28']; exact hC.2) (by rw [e21']; exact hn) hn6 (wN_bd hC es hn hN2)
        rw [e28'] at la
        refine Ok_mono (fun o' Λ' h2 hpost => ?_) la
        obtain ⟨rfl, rfl, hF4⟩ := hpost
        have hF5 : FrQ h h2 := fun q hq => by rw [hF4 q ⟨by omega, by omega, by omega⟩]; exact hF3 q hq
        refine And.intro (fun c45 => ?_) (fun c45 => ?_)
        · refine And.intro i1 ?_
          refine ih (t + 1) a h2 (by omega) hF5 (fun r hr => he r (Or.inr ⟨fun z => z.2 (h' 42) hN2 c45, hr⟩))
        · refine And.intro i1 ?_
          refine ih (t + 1) _ h2 (by omega) hF5 (fun r hr => he r (Or.inl ⟨⟨eA.mp ha, fun nd hnd z => c45 ?_⟩, hr⟩))
          have e := lAF_congr (nd := nd) (nd' := h' 42) (st := h 28) (n := n) (fun q c hq hc => by rw [hnd q c hq hc, hN2 q c hq hc]) 4 0 0 (by omega)
          rw [← e]; exact z
      · refine And.intro (fun c30 => ?_) (fun c30 => absurd rfl c30)
        refine And.intro i1 ?_
        exact ih (t + 1) a h' (by omega) hF3 (fun r hr => he r (Or.inr ⟨fun z => ha (eA.mpr z.1), hr⟩))
  refine hX 12 [13] 0 _ _ _ _ _ _ ?_
  refine Ok_rt tot_ok ?_
  rw [hns]
  exact loop ns 0 0 h (by omega) (FrQ_rf h) (fun r hr => hr)
end LOTS
