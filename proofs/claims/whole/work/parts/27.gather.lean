/-! ===== Dealer: gathering needs; lots of all colors ===== -/
theorem QI_of {h h' : HP} {D : KD} {n : Nat} {p : Int} (hQ : QI h 31 D n p) (e0 : h' 31 = h 31) (e1 : h' 32 = h 32) (e2 : h' 33 = h 33) (e3 : h' 34 = h 34) (e4 : h' 35 = h 35) (f2 : h' 22 = h 22) (f3 : h' 23 = h 23) (f4 : h' 24 = h 24) (f6 : h' 26 = h 26) : QI h' 31 D n p := by
  obtain ⟨⟨a1, a2, a3, a4, a5⟩, b, c⟩ := hQ
  refine ⟨⟨by rw [e0]; exact a1, by rw [e0]; exact a2, by rw [e0]; exact a3, by rw [e0]; exact a4, fun k hk => ?_⟩, fun k hk => ?_, c⟩
  · have := a5 k hk
    exact ⟨by rw [rdA_of e1]; exact this.1, by rw [rdA_of e2]; exact this.2.1, by rw [rdA_of e3]; exact this.2.2.1, by rw [rdA_of e4]; exact this.2.2.2⟩
  · rw [f2, f3, f4, f6]; exact b k hk
/-- behind knit -/
theorem QI_knit {h h' : HP} {b a : Nat} {s p : Int} (hP : PatOK (h 21) (h 22) (h 23) (h 24) (h 25) (h 26)) (hS : StOK (h a)) (hs : 0 ≤ s ∧ s < 6) (hp : 0 ≤ p ∧ p < rd (h 21) 4 3) (hI : PlanIs h' b (cDr (h 22) (h 23) (h 24) (h 26) (h a) s p) (rd (h 25) 6 p).toNat p)
    (f2 : h' 22 = h 22) (f3 : h' 23 = h 23) (f4 : h' 24 = h 24) (f6 : h' 26 = h 26) : QI h' b (cDr (h 22) (h 23) (h 24) (h 26) (h a) s p) (rd (h 25) 6 p).toNat p := by
  have h1 := (hP.2.2.2.2.2 p hp.1 hp.2).1
  have h2 := hP.2.2.2.1
  refine ⟨hI, fun k hk => ?_, cD_ok hP hS hs hp, ⟨hp.1, by omega⟩, by omega⟩
  rw [f2, f3, f4, f6]
  exact ⟨rfl, rfl, rfl, rfl, fun _ => ⟨rfl, rfl, fun _ => rfl⟩⟩
theorem sCol_bd {D : KD} {n : Nat} {c : Int} (hK : KOK D n) : ∀ (m k : Nat) (a : Int), k + m ≤ n → -300000000 * (k : Int) ≤ a → a ≤ 2000000000 * (k : Int) → -300000000 * ((k + m : Nat) : Int) ≤ sCol D c m k a ∧ sCol D c m k a ≤ 2000000000 * ((k + m : Nat) : Int)
  | 0, k, a, _, h1, h2 => by unfold sCol; exact ⟨h1, h2⟩
  | m + 1, k, a, hk, h1, h2 => by
    have so := sO_bd hK (show k < n by omega)
    have ih := sCol_bd (c := c) hK m (k + 1) (if kC D k = c then a + sO D k else a) (by omega) (by split <;> omega) (by split <;> omega)
    unfold sCol
    rw [show k + (m + 1) = k + 1 + m by omega]
    exact ih
def gD (h : HP) (s q : Int) : KD := cDr (h 22) (h 23) (h 24) (h 26) (h 28) s q
def gN (h : HP) (q : Int) : Nat := (rd (h 25) 6 q).toNat
def nCol (h : HP) (s q c : Int) : Int := sCol (gD h s q) c (md (gD h s q) (gN h q)) 0 0 * rd (h 28) 132 2
/-- the cells of plan and dealer -/
def scr (c : Nat) : Prop := (31 ≤ c ∧ c ≤ 35) ∨ c = 42
section GATHER
variable {N : List CT} {h : HP} {n : Nat} {s j : Int}
theorem gather_ok (hP : PatOK (h 21) (h 22) (h 23) (h 24) (h 25) (h 26)) (hS : StOK (h 28)) (hs : 0 ≤ s ∧ s < 6) (hn : rd (h 21) 4 3 = (n : Int)) :
    Ok 7 [vR 41, vR 27, vI s] (LC N) h (fun o Λ' h' => Λ' = LC N ∧ (∀ c, ¬ scr c → h' c = h c) ∧ ((o = .inl (some (vI 1)) ∧ (∀ q : Nat, q < n → fl (gD h s q) (gN h q) = 0) ∧ ∀ q c : Nat, q < n → c < 4 → wN (h' 42) c q = nCol h s q c) ∨ (o = .inl (some (vI 0)) ∧ ∃ q : Nat, q < n ∧ fl (gD h s q) (gN h q) ≠ 0))) := by
  have hp4 := hP.2.2.2.1
  have hyn := hS.2.2.1
  refine ok_body B_X1_gather rfl (fun X hX => ?_)
  have fr : ∀ h1 : HP, (∀ c, ¬ scr c → h1 c = h c) → h1 21 = h 21 ∧ h1 22 = h 22 ∧ h1 23 = h 23 ∧ h1 24 = h 24 ∧ h1 25 = h 25 ∧ h1 26 = h 26 ∧ h1 28 = h 28 := fun h1 hF =>
    ⟨hF 21 (by unfold scr; omega), hF 22 (by unfold scr; omega), hF 23 (by unfold scr; omega), hF 24 (by unfold scr; omega), hF 25 (by unfold scr; omega), hF 26 (by unfold scr; omega), hF 28 (by unfold scr; omega)⟩
  have inner : ∀ (p : Nat), p < n → fl (gD h s p) (gN h p) = 0 → (∀ q : Nat, q < p → fl (gD h s q) (gN h q) = 0) → ∀ (m c : Nat) (h1 : HP), c + m = 4 → (∀ c, ¬ scr c → h1 c = h c) → QI h1 31 (gD h s p) (gN h p) p → (∀ q d : Nat, (q < p ∧ d < 4) ∨ (q = p ∧ d < c) → wN (h1 42) d q = nCol h s q d) →
      (∀ h2 : HP, (∀ c, ¬ scr c → h2 c = h c) → (∀ q d : Nat, q < p + 1 → d < 4 → wN (h2 42) d q = nCol h s q d) → X 12 [vR 41, vR 27, vI s, vI (n : Int), vI ((p : Int) + 1), vI (4 : Int)] [] (LC N) h2 0 0) →
      X 44 [vR 41, vR 27, vI s, vI (n : Int), vI (p : Int), vI (c : Int)] [] (LC N) h1 0 0 := by
    intro p hp hfl hfq m
    induction m with
    | zero =>
      intro c h1 hc hF hQ hA hgo
      have ec : c = 4 := by omega
      subst ec
      refine hX 10 [12] 44 _ _ _ _ _ _ ?_
      refine And.intro (fun c47 => ?_) (fun c47 => absurd c47 (by omega))
      refine And.intro ⟨by omega, by omega⟩ ?_
      exact hgo h1 hF (fun q d hq hd => hA q d (by omega))
    | succ m ih =>
      intro c h1 hc hF hQ hA hgo
      obtain ⟨-, e22, e23, e24, e25, e26, e28⟩ := fr h1 hF
      have sb := sCol_bd (c := (c : Int)) hQ.2.2.1 (md (gD h s p) (gN h p)) 0 0 (by have := (md_spec (gD h s p) (gN h p)).1; omega) (by omega) (by omega)
      have mdn := (md_spec (gD h s p) (gN h p)).1
      have n10 := hQ.2.2.2.2
      have mb := mul_bd (a := sCol (gD h s p) c (md (gD h s p) (gN h p)) 0 0 + 3000000000) (b := rd (h 28) 132 2) (A := 23000000000) (B := 99) (by omega) (by omega) (by omega) (by omega)
      rw [Int.add_mul] at mb
      refine hX 50 [44] 44 _ _ _ _ _ _ ?_
      refine And.intro (fun c47 => absurd c47 (by omega)) (fun c47 => ?_)
      refine And.intro ⟨by omega, by omega⟩ ?_
      refine And.intro ⟨by omega, by omega⟩ ?_
      refine Ok_rt (stSumIn_ok (N := N) (i := (c : Int)) hQ) ?_
      have cl := cell_ok (N := N) (h := h1) (i := 2) (o := 27) (Or.inr (Or.inl rfl))
      have ecl : rdA h1 (27 + 1) 132 2 = rd (h 28) 132 2 := by rw [← e28]; rfl
      rw [ecl] at cl
      refine Ok_rt cl ?_
      refine And.intro (show inRL (sCol (gD h s p) c (md (gD h s p) (gN h p)) 0 0 * rd (h 28) 132 2) from ⟨by omega, by omega⟩) ?_
      refine Ok_rt (putL_ok (a := 42) (len := 24) rfl (by decide)) ?_
      refine And.intro ⟨by omega, by omega⟩ ?_
      refine ih (c + 1) _ (by omega) (fun q hq => ?_) ?_ (fun q d hqd => ?_) hgo
      · rw [wrA_cell (by unfold scr at hq; omega)]; exact hF q hq
      · exact QI_of hQ (wrA_cell (by decide)) (wrA_cell (by decide)) (wrA_cell (by decide)) (wrA_cell (by decide)) (wrA_cell (by decide)) (wrA_cell (by decide)) (wrA_cell (by decide)) (wrA_cell (by decide)) (wrA_cell (by decide))
      · unfold wN
        rw [← rd_A, rdA_wrA]
        by_cases z : q = p ∧ d = c
        · obtain ⟨rfl, rfl⟩ := z
          rw [if_pos ⟨by omega, by omega, rfl⟩]; rfl
        · rw [if_neg (by omega)]
          exact hA q d (by omega)
  have outer : ∀ (m p : Nat) (h1 : HP) (j5 : PV), p + m = n → (∀ c, ¬ scr c → h1 c = h c) → (∀ q : Nat, q < p → fl (gD h s q) (gN h q) = 0) → (∀ q d : Nat, q < p → d < 4 → wN (h1 42) d q = nCol h s q d) →
      X 12 [vR 41, vR 27, vI s, vI (n : Int), vI (p : Int), j5] [] (LC N) h1 0 0 := by
    intro m
    induction m with
    | zero =>
      intro p h1 j5 hp hF hf hA
      have ep : p = n := by omega
      subst ep
      refine hX 8 [] 12 _ _ _ _ _ _ ?_
      refine And.intro (fun c15 => ?_) (fun c15 => absurd c15 (by omega))
      exact And.intro ⟨by decide, by decide⟩ ⟨rfl, hF, Or.inl ⟨rfl, hf, hA⟩⟩
    | succ m ih =>
      intro p h1 j5 hp hF hf hA
      have hpn : p < n := by omega
      obtain ⟨e21, e22, e23, e24, e25, e26, e28⟩ := fr h1 hF
      have kn := knit31_ok (N := N) (h := h1) (s := s) (p := (p : Int)) (by rw [e21, e22, e23, e24, e25, e26]; exact hP) (by rw [e28]; exact hS) hs (by rw [e21]; omega)
      rw [e22, e23, e24, e25, e26, e28] at kn
      refine hX 30 [44] 12 _ _ _ _ _ _ ?_
      refine And.intro (fun c15 => absurd c15 (by omega)) (fun c15 => ?_)
      refine Ok_mono (fun o' Λ' h' hpost => ?_) kn
      obtain ⟨rfl, rfl, hI, hF2⟩ := hpost
      have hF3 : ∀ c, ¬ scr c → h' c = h c := fun c hc => by rw [hF2 c (by unfold scr at hc; omega)]; exact hF c hc
      have efl : h' 31 8 = fl (gD h s p) (gN h p) := hI.2.2.2.1
      refine And.intro (fun c36 => ?_) (fun c36 => ?_)
      · have c36 : h' 31 8 = 0 := c36
        have hQ : QI h' 31 (gD h s p) (gN h p) p := by
          refine QI_knit hP hS hs (by omega) hI ?_ ?_ ?_ ?_
          · exact hF3 22 (by unfold scr; omega)
          · exact hF3 23 (by unfold scr; omega)
          · exact hF3 24 (by unfold scr; omega)
          · exact hF3 26 (by unfold scr; omega)
        refine inner p hpn (by rw [← efl]; exact c36) hf 4 0 h' (by omega) hF3 hQ (fun q d hqd => ?_) (fun h2 hF4 hA4 => ?_)
        · rw [hF2 42 (by decide)]
          exact hA q d (by omega) (by omega)
        · exact ih (p + 1) h2 _ (by omega) hF4 (fun q hq => by by_cases z : q = p; rw [z, ← efl]; exact c36; exact hf q (by omega)) hA4
      · exact And.intro ⟨by decide, by decide⟩ ⟨rfl, hF3, Or.inr ⟨rfl, p, hpn, by rw [← efl]; exact c36⟩⟩
  refine hX 12 [12] 0 _ _ _ _ _ _ ?_
  refine Ok_rt (total_ok (Or.inr rfl)) ?_
  have et : rdA h (19 + 2) 4 3 = (n : Int) := hn
  rw [et]
  exact outer n 0 h _ (by omega) (fun _ _ => rfl) (fun q hq => absurd hq (Nat.not_lt_zero _)) (fun q d hq => absurd hq (Nat.not_lt_zero _))
def lAF (nd st : Nat → Int) (n : Nat) : Nat → Nat → Int → Int
  | 0, _, a => a
  | m + 1, c, a => if bD nd st n c = NOD then -1 else lAF nd st n m (c + 1) (a + ishrI (bD nd st n c) 24)
theorem ishr_bd (a : Int) (h0 : 0 ≤ a) (h1 : a ≤ 2147483647) : 0 ≤ ishrI a 24 ∧ ishrI a 24 ≤ 2147483647 ∧ ishrI a 24 = a / 16777216 := by
  have e1 : (Int32.ofInt a >>> (Int32.ofInt 24 &&& 31)).toBitVec = (BitVec.ofInt 32 a).sshiftRight 24 := rfl
  have e2 : ishrI a 24 = ((BitVec.ofInt 32 a).sshiftRight 24).toInt := by unfold ishrI; rw [← e1]; rfl
  have e3 : (BitVec.ofInt 32 a).toInt = a := by rw [BitVec.toInt_ofInt]; exact bm32 ⟨by omega, by omega⟩
  rw [e2, BitVec.toInt_sshiftRight, e3, Int.shiftRight_eq_div_pow]
  have : ((2 ^ 24 : Nat) : Int) = 16777216 := by decide
  rw [this]
  omega
theorem bD_bd (nd st : Nat → Int) {n : Nat} (hn6 : n ≤ 6) (hl : rd st 132 3 ≤ 10) (c : Int) : bD nd st n c = NOD ∨ (0 ≤ bD nd st n c ∧ bD nd st n c ≤ 270000000) := by
  have spb : ∀ q, q < 64 → 0 ≤ SN pw n q ∧ SN pw n q ≤ 1118481 := by
    have : ∀ k, k ≤ 6 → ∀ q, q < 64 → 0 ≤ SN pw k q ∧ SN pw k q ≤ 1118481 := by decide +kernel
    intro q hq; exact this n hn6 q hq
  have h2 := NM_lt (wN nd c) n
  have h64 := two_pow_le6 hn6
  have := CL_bd (st := st) (col := c) (sn := SN (wN nd c) n) (sp := SN pw n) (nd := NM (wN nd c) n) spb (by omega) (rd st 132 3).toNat (by omega) (NM (wN nd c) n) (by omega)
  unfold bD
  rcases this with z | z
  · left; exact z
  · right; omega
theorem lotsOfAll_ok (hS : StOK (h 28)) (hn : rd (h 21) 4 3 = (n : Int)) (hn6 : n ≤ 6) (hw : ∀ j, 0 ≤ j → j ≤ 3 → ∀ q : Nat, q < n → -10000000000000 ≤ wN (h 42) j q ∧ wN (h 42) j q ≤ 10000000000000) :
    Ok 11 [vR 41, vR 27] (LC N) h (fun o Λ' h' => o = .inl (some (vI (lAF (h 42) (h 28) n 4 0 0))) ∧ Λ' = LC N ∧ ∀ q, (q ≠ 43 ∧ q ≠ 44 ∧ q ≠ 45) → h' q = h q) := by
  have hl10 := hS.2.2.2.1
  refine ok_body B_X1_lotsOfAll rfl (fun X hX => ?_)
  have loop : ∀ (m c : Nat) (a : Int) (h1 : HP) (j4 : PV), c + m = 4 → 0 ≤ a → a ≤ 100 * c → (∀ q, (q ≠ 43 ∧ q ≠ 44 ∧ q ≠ 45) → h1 q = h q) → lAF (h 42) (h 28) n m c a = lAF (h 42) (h 28) n 4 0 0 → X 4 [vR 41, vR 27, vI a, vI (c : Int), j4] [] (LC N) h1 0 0 := by
    intro m
    induction m with
    | zero =>
      intro c a h1 j4 hc ha1 ha2 hF he
      refine hX 8 [] 4 _ _ _ _ _ _ ?_
      refine And.intro (fun c6 => ?_) (fun c6 => absurd c6 (by omega))
      exact ⟨congrArg (fun z => Sum.inl (some (vI z))) he, rfl, hF⟩
    | succ m ih =>
      intro c a h1 j4 hc ha1 ha2 hF he
      have e42 : h1 42 = h 42 := hF 42 (by decide)
      have e28 : h1 28 = h 28 := hF 28 (by decide)
      have e21 : h1 21 = h 21 := hF 21 (by decide)
      have bd := bestD_ok (N := N) (h := h1) (n := n) (j := (c : Int)) (by rw [e28]; exact hS) (by rw [e21]; exact hn) hn6 (by omega) (by rw [e42]; exact hw c (by omega) (by omega))
      rw [e42, e28] at bd
      have bb := bD_bd (h 42) (h 28) hn6 (by omega) (c : Int)
      refine hX 20 [4] 4 _ _ _ _ _ _ ?_
      refine And.intro (fun c6 => absurd c6 (by omega)) (fun c6 => ?_)
      refine Ok_mono (fun o' Λ' h' hpost => ?_) bd
      obtain ⟨rfl, rfl, hF2⟩ := hpost
      have hF3 : ∀ q, (q ≠ 43 ∧ q ≠ 44 ∧ q ≠ 45) → h' q = h q := fun q hq => by rw [hF2 q hq]; exact hF q hq
      refine And.intro (fun c21 => ?_) (fun c21 => ?_)
      · have c21 : bD (h 42) (h 28) n c ≠ NOD := c21
        rcases bb with z | z
        · exact absurd z c21
        · have sh := ishr_bd (bD (h 42) (h 28) n c) z.1 (by omega)
          refine And.intro ⟨by omega, by omega⟩ ?_
          refine And.intro ⟨by omega, by omega⟩ ?_
          exact ih (c + 1) _ h' _ (by omega) (by omega) (by omega) hF3 (by rw [← he, lAF, if_neg c21])
      · have c21 : bD (h 42) (h 28) n c = NOD := c21
        exact ⟨congrArg (fun z => Sum.inl (some (vI z))) (by rw [← he, lAF, if_pos c21]), rfl, hF3⟩
  refine hX 8 [4] 0 _ _ _ _ _ _ ?_
  exact loop 4 0 0 h _ (by omega) (by omega) (by omega) (fun _ _ => rfl) rfl
end GATHER
