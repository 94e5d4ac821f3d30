/-! ===== Dealer: sets of pieces, and what lots cost ===== -/
def NOD : Int := 2147483647
def sub (t s : Nat) : Bool := t &&& s == t
/-- what a set of the first t pieces needs together -/
def SN (w : Nat → Int) : Nat → Nat → Int
  | 0, _ => 0
  | t + 1, s => if s < 2 ^ t then SN w t s else SN w t (s - 2 ^ t) + w t
def pw (p : Nat) : Int := 16 ^ (5 - p)
def NM (w : Nat → Int) : Nat → Nat
  | 0 => 0
  | t + 1 => if 0 < w t then NM w t + 2 ^ t else NM w t
def cWf (c sn sp : Nat → Int) (lot room : Int) (s : Nat) : Nat → Nat → Int → Int
  | 0, _, a => a
  | m + 1, t, a => cWf c sn sp lot room s m (t + 1) (if sub t s = true ∧ sn t ≤ room ∧ c (s - t) ≠ NOD then min a (c (s - t) + 16777216 + lot * sp t) else a)
def cW (c sn sp : Nat → Int) (lot room : Int) (s : Nat) : Int := cWf c sn sp lot room s s 1 (c s)
def oL (c sn sp : Nat → Int) (lot room : Int) (nd : Nat) : Nat → Int := fun s => if 1 ≤ s ∧ s ≤ nd ∧ sub s nd = true then cW c sn sp lot room s else c s
def CL (st : Nat → Int) (col : Int) (sn sp : Nat → Int) (nd : Nat) : Nat → Nat → Int
  | 0 => fun s => if s = 0 then 0 else NOD
  | l + 1 => if rd st 132 (4 + (l : Int)) = col then oL (CL st col sn sp nd l) sn sp l (1000 * rd st 132 (14 + (l : Int))) nd else CL st col sn sp nd l
/-- what the pieces need of a color, and the cost of its best dealing -/
def wN (nd : Nat → Int) (col : Int) (p : Nat) : Int := rd nd 24 ((p : Int) * 4 + col)
def bD (nd st : Nat → Int) (n : Nat) (col : Int) : Int := CL st col (SN (wN nd col) n) (SN pw n) (NM (wN nd col) n) (rd st 132 3).toNat (NM (wN nd col) n)
theorem ii_or : ∀ k, k < 6 → ∀ q, q < 2 ^ k → iorI (q : Nat) ((2 ^ k : Nat) : Int) = ((q + 2 ^ k : Nat) : Int) := by decide +kernel
theorem ii_shl : ∀ k, k < 6 → ishlI 1 (k : Nat) = ((2 ^ k : Nat) : Int) := by decide +kernel
theorem ii_pw : ∀ k, k < 6 → ishlI 1 (4 * (5 - (k : Nat)) : Int) = pw k := by decide +kernel
theorem ii_sub : ∀ s, s < 64 → ∀ t, t < 64 → ((iandI (t : Nat) (ixorI (s : Nat) (-1)) = 0) ↔ sub t s = true) := by decide +kernel
theorem ii_xor : ∀ s, s < 64 → ∀ t, t < 64 → sub t s = true → ixorI (s : Nat) (t : Nat) = ((s - t : Nat) : Int) ∧ t ≤ s := by decide +kernel
theorem pw_bd : ∀ p, p < 6 → 0 ≤ pw p ∧ pw p ≤ 1048576 := by decide +kernel
theorem NM_lt (w : Nat → Int) : ∀ t, NM w t < 2 ^ t
  | 0 => by unfold NM; decide
  | t + 1 => by
    have := NM_lt w t
    unfold NM
    have e : 2 ^ (t + 1) = 2 ^ t + 2 ^ t := by rw [Nat.pow_succ]; omega
    split <;> omega
theorem two_pow_le6 {t : Nat} (h : t ≤ 6) : 2 ^ t ≤ 64 := by
  have := Nat.pow_le_pow_right (show 0 < 2 by decide) h
  exact this
theorem SN_bd {w : Nat → Int} {lo hi : Int} (h0 : lo ≤ 0) (h1 : 0 ≤ hi) : ∀ (t s : Nat), (∀ p, p < t → lo ≤ w p ∧ w p ≤ hi) → lo * t ≤ SN w t s ∧ SN w t s ≤ hi * t
  | 0, s, _ => by unfold SN; omega
  | t + 1, s, h => by
    have ht := h t (by omega)
    have a := SN_bd h0 h1 t s (fun p q => h p (by omega))
    have b := SN_bd h0 h1 t (s - 2 ^ t) (fun p q => h p (by omega))
    unfold SN
    have e1 : lo * ((t + 1 : Nat) : Int) = lo * t + lo := by rw [Int.natCast_add, Int.mul_add]; simp
    have e2 : hi * ((t + 1 : Nat) : Int) = hi * t + hi := by rw [Int.natCast_add, Int.mul_add]; simp
    split <;> omega
theorem cWf_congr {c c' sn sp : Nat → Int} {lot room : Int} {s : Nat} : ∀ (m t : Nat) (a : Int), 1 ≤ t → t + m ≤ s + 1 → (∀ q, q < s → c q = c' q) → cWf c sn sp lot room s m t a = cWf c' sn sp lot room s m t a
  | 0, _, _, _, _, _ => rfl
  | m + 1, t, a, h1, h2, h3 => by
    unfold cWf
    rw [h3 (s - t) (by omega)]
    exact cWf_congr m (t + 1) _ (by omega) (by omega) h3
theorem cWf_bd {c sn sp : Nat → Int} {lot room B : Int} {s : Nat} (hl : 0 ≤ lot ∧ lot ≤ 9) (hB : 0 ≤ B) (hc : ∀ q, q ≤ s → c q = NOD ∨ (0 ≤ c q ∧ c q ≤ B)) (hsp : ∀ q, q ≤ s → 0 ≤ sp q ∧ sp q ≤ 1118481) :
    ∀ (m t : Nat) (a : Int), t + m ≤ s + 1 → (a = NOD ∨ (0 ≤ a ∧ a ≤ B + 27000000)) → (cWf c sn sp lot room s m t a = NOD ∨ (0 ≤ cWf c sn sp lot room s m t a ∧ cWf c sn sp lot room s m t a ≤ B + 27000000))
  | 0, _, a, _, h => h
  | m + 1, t, a, h1, h => by
    unfold cWf
    refine cWf_bd hl hB hc hsp m (t + 1) _ (by omega) ?_
    split
    · next z =>
      have hh := hc (s - t) (by omega)
      have hq := hsp t (by omega)
      have e := mul_bd (a := lot) (b := sp t) (A := 9) (B := 1118481) hl.1 hl.2 hq.1 hq.2
      have n1 : NOD = 2147483647 := rfl
      rcases hh with q | q
      · exact absurd q z.2.2
      · right; omega
    · exact h
theorem CL_bd {st : Nat → Int} {col : Int} {sn sp : Nat → Int} {nd : Nat} (hsp : ∀ q, q < 64 → 0 ≤ sp q ∧ sp q ≤ 1118481) (hn : nd < 64) : ∀ (l : Nat), l ≤ 10 → ∀ s, s < 64 → (CL st col sn sp nd l s = NOD ∨ (0 ≤ CL st col sn sp nd l s ∧ CL st col sn sp nd l s ≤ 27000000 * l))
  | 0, _, s, _ => by
    unfold CL
    by_cases z : s = 0
    · rw [if_pos z]; right; omega
    · rw [if_neg z]; left; rfl
  | l + 1, hl, s, hs => by
    have ih := CL_bd (st := st) (col := col) (sn := sn) hsp hn l (by omega)
    unfold CL
    split
    · unfold oL
      split
      · have h1 := cWf_bd (c := CL st col sn sp nd l) (sn := sn) (sp := sp) (lot := (l : Int)) (room := 1000 * rd st 132 (14 + (l : Int))) (B := 27000000 * l) (s := s) (by omega) (by omega) (fun q hq => ih q (by omega)) (fun q hq => hsp q (by omega)) s 1 (CL st col sn sp nd l s) (by omega) (by rcases ih s hs with z | z; left; exact z; right; omega)
        unfold cW
        rcases h1 with z | z
        · left; exact z
        · right; omega
      · rcases ih s hs with z | z
        · left; exact z
        · right; omega
    · rcases ih s hs with z | z
      · left; exact z
      · right; omega
section DEALER
variable {N : List CT} {h : HP} {n k : Nat} {p i j x : Int}
theorem needOf_ok (hi : 0 ≤ i ∧ i ≤ 10) (hj : 0 ≤ j ∧ j ≤ 10) : Ok 8 [vR 41, vI i, vI j] (LC N) h (rt (some (vL (rd (h 42) 24 (i * 4 + j)))) (LC N) h) := by
  refine ok_body B_X1_needOf rfl (fun X hX => ?_)
  refine hX 14 [] 0 _ _ _ _ _ _ ?_
  refine And.intro ⟨by omega, by omega⟩ ?_
  refine And.intro ⟨by omega, by omega⟩ ?_
  refine Ok_rt (atL_ok (a := 42) (len := 24) rfl (by decide)) ?_
  exact rt_mk rfl rfl
theorem placeShift_ok (hi : 0 ≤ i ∧ i ≤ 10) : Ok 10 [vI i] (LC N) h (rt (some (vI (4 * (5 - i)))) (LC N) h) := by
  refine ok_body B_X1_placeShift rfl (fun X hX => ?_)
  refine hX 11 [] 0 _ _ _ _ _ _ ?_
  refine And.intro ⟨by omega, by omega⟩ ?_
  refine And.intro ⟨by omega, by omega⟩ ?_
  exact rt_mk rfl rfl
theorem lotIn_ok (hi : 0 ≤ i ∧ i ≤ 10) : Ok 9 [vR 41, vI x, vI i] (LC N) h (rt (some (vI (iandI (ishrI x (4 * (5 - i))) 15))) (LC N) h) := by
  refine ok_body B_X1_lotIn rfl (fun X hX => ?_)
  refine hX 12 [] 0 _ _ _ _ _ _ ?_
  refine Ok_rt (placeShift_ok hi) ?_
  exact rt_mk rfl rfl

theorem addUp_ok (hn : n ≤ 6) (hj : 0 ≤ j ∧ j ≤ 3) (hw : ∀ q : Nat, q < n → -10000000000000 ≤ wN (h 42) j q ∧ wN (h 42) j q ≤ 10000000000000) :
    Ok 13 [vR 41, vI (n : Int), vI j] (LC N) h (fun o Λ' h' => o = .inl (some (vI (NM (wN (h 42) j) n : Nat))) ∧ Λ' = LC N ∧ (∀ c, (c ≠ 43 ∧ c ≠ 44) → h' c = h c) ∧ ∀ s : Nat, s < 2 ^ n → rd (h' 43) 64 s = SN (wN (h 42) j) n s ∧ rd (h' 44) 64 s = SN pw n s) := by
  refine ok_body B_X1_addUpSets rfl (fun X hX => ?_)
  obtain ⟨w, hw0⟩ : ∃ w, w = wN (h 42) j := ⟨_, rfl⟩
  rw [← hw0] at hw hX
  have snb : ∀ t s, t ≤ n → -60000000000000 ≤ SN w t s ∧ SN w t s ≤ 60000000000000 := fun t s ht => by
    have := SN_bd (w := w) (lo := -10000000000000) (hi := 10000000000000) (by decide) (by decide) t s (fun p hp => hw p (by omega))
    omega
  have spb : ∀ t s, t ≤ n → 0 ≤ SN pw t s ∧ SN pw t s ≤ 6291456 := fun t s ht => by
    have := SN_bd (w := pw) (lo := 0) (hi := 1048576) (by decide) (by decide) t s (fun p hp => pw_bd p (by omega))
    omega
  have inner : ∀ (t : Nat), t < n → ∀ (m q : Nat) (h1 : HP), q + m = 2 ^ t → (∀ c, (c ≠ 43 ∧ c ≠ 44) → h1 c = h c) → (∀ s : Nat, s < 2 ^ t + q → rd (h1 43) 64 s = SN w (t + 1) s ∧ rd (h1 44) 64 s = SN pw (t + 1) s) →
      (∀ h2 : HP, (∀ c, (c ≠ 43 ∧ c ≠ 44) → h2 c = h c) → (∀ s : Nat, s < 2 ^ (t + 1) → rd (h2 43) 64 s = SN w (t + 1) s ∧ rd (h2 44) 64 s = SN pw (t + 1) s) → X 113 [vR 41, vI (n : Int), vI j, vI (NM w t : Nat), vI (t : Int), vI ((2 ^ t : Nat) : Int), vL (w t), vU, vI ((2 ^ t : Nat) : Int)] [] (LC N) h2 0 0) →
      X 47 [vR 41, vI (n : Int), vI j, vI (NM w t : Nat), vI (t : Int), vI ((2 ^ t : Nat) : Int), vL (w t), vU, vI (q : Int)] [] (LC N) h1 0 0 := by
    intro t ht m
    have e64 := two_pow_le6 (show t + 1 ≤ 6 by omega)
    have e2 : 2 ^ (t + 1) = 2 ^ t + 2 ^ t := by rw [Nat.pow_succ]; omega
    induction m with
    | zero =>
      intro q h1 hq hF hA hgo
      refine hX 8 [113] 47 _ _ _ _ _ _ ?_
      refine And.intro (fun c51 => ?_) (fun c51 => absurd c51 (by omega))
      have eq : q = 2 ^ t := by omega
      rw [eq]
      refine hgo h1 hF (fun s hs => hA s (by omega))
    | succ m ih =>
      intro q h1 hq hF hA hgo
      have hql : q < 2 ^ t := by omega
      have hor := ii_or t (by omega) q hql
      have hpw := ii_pw t (by omega)
      have g1 := (hA q (by omega)).1
      have g2 := (hA q (by omega)).2
      have w1 := hw t ht
      have s1 := snb (t + 1) q (by omega)
      have s2 := spb (t + 1) q (by omega)
      have p1 := pw_bd t (by omega)
      refine hX 60 [47] 47 _ _ _ _ _ _ ?_
      refine And.intro (fun c51 => absurd c51 (by omega)) (fun c51 => ?_)
      refine Ok_rt (atL_ok (a := 43) (len := 64) rfl (by decide)) ?_
      refine And.intro (show inRL (rd (h1 43) 64 (q : Int) + w t) from (by rw [g1]; exact ⟨by omega, by omega⟩)) ?_
      refine Ok_rt (putL_ok (a := 43) (len := 64) rfl (by decide)) ?_
      refine Ok_rt (at_ok (a := 44) (len := 64) rfl (by decide)) ?_
      refine Ok_rt (placeShift_ok (i := (t : Int)) ⟨by omega, by omega⟩) ?_
      refine And.intro (show inR (rdA (wrA h1 43 64 (iorI (q : Int) ((2 ^ t : Nat) : Int)) (rd (h1 43) 64 (q : Int) + w t)) 44 64 (q : Int) + ishlI 1 (4 * (5 - (t : Int)))) from (by rw [rdA_wrA_oth (by decide), hpw]; show inR (rd (h1 44) 64 (q : Int) + pw t); rw [g2]; exact ⟨by omega, by omega⟩)) ?_
      refine Ok_rt (put_ok (a := 44) (len := 64) rfl (by decide)) ?_
      refine And.intro ⟨by omega, by omega⟩ ?_
      refine ih (q + 1) _ (by omega) (fun c hc => ?_) (fun s hs => ?_) hgo
      · rw [wrA_cell hc.2, wrA_cell hc.1]; exact hF c hc
      · have e43 : rd (wrA (wrA h1 43 64 (iorI (q : Int) ((2 ^ t : Nat) : Int)) (rd (h1 43) 64 (q : Int) + w t)) 44 64 (iorI (q : Int) ((2 ^ t : Nat) : Int)) (rdA (wrA h1 43 64 (iorI (q : Int) ((2 ^ t : Nat) : Int)) (rd (h1 43) 64 (q : Int) + w t)) 44 64 (q : Int) + ishlI 1 (4 * (5 - (t : Int)))) 43) 64 s = if (s : Int) = ((q + 2 ^ t : Nat) : Int) then SN w (t + 1) q + w t else rd (h1 43) 64 s := by
          rw [← rd_A, rdA_wrA_oth (by decide), rdA_wrA, hor, g1]
          by_cases z : (s : Int) = ((q + 2 ^ t : Nat) : Int)
          · rw [if_pos ⟨by omega, by omega, z⟩, if_pos z]
          · rw [if_neg (fun y => z y.2.2), if_neg z]; rfl
        have e44 : rd (wrA (wrA h1 43 64 (iorI (q : Int) ((2 ^ t : Nat) : Int)) (rd (h1 43) 64 (q : Int) + w t)) 44 64 (iorI (q : Int) ((2 ^ t : Nat) : Int)) (rdA (wrA h1 43 64 (iorI (q : Int) ((2 ^ t : Nat) : Int)) (rd (h1 43) 64 (q : Int) + w t)) 44 64 (q : Int) + ishlI 1 (4 * (5 - (t : Int)))) 44) 64 s = if (s : Int) = ((q + 2 ^ t : Nat) : Int) then SN pw (t + 1) q + pw t else rd (h1 44) 64 s := by
          rw [← rd_A, rdA_wrA, rdA_wrA_oth (show (44 : Nat) ≠ 43 by decide), rdA_wrA_oth (show (44 : Nat) ≠ 43 by decide), hor, hpw, rd_A h1 44 64 (q : Int), g2]
          by_cases z : (s : Int) = ((q + 2 ^ t : Nat) : Int)
          · rw [if_pos ⟨by omega, by omega, z⟩, if_pos z]
          · rw [if_neg (fun y => z y.2.2), if_neg z]; rfl
        by_cases z : s = q + 2 ^ t
        · have z' : (s : Int) = ((q + 2 ^ t : Nat) : Int) := by omega
          have n1 : ¬ s < 2 ^ t := by omega
          have n2 : s - 2 ^ t = q := by omega
          have x1 : SN w (t + 1) q = SN w t q := by rw [SN, if_pos hql]
          have x2 : SN pw (t + 1) q = SN pw t q := by rw [SN, if_pos hql]
          have y1 : SN w (t + 1) s = SN w t q + w t := by rw [SN, if_neg n1, n2]
          have y2 : SN pw (t + 1) s = SN pw t q + pw t := by rw [SN, if_neg n1, n2]
          exact ⟨e43.trans (by rw [if_pos z', x1, y1]), e44.trans (by rw [if_pos z', x2, y2])⟩
        · have z' : ¬ (s : Int) = ((q + 2 ^ t : Nat) : Int) := by omega
          have := hA s (by omega)
          exact ⟨e43.trans (by rw [if_neg z']; exact this.1), e44.trans (by rw [if_neg z']; exact this.2)⟩
  have outer : ∀ (m t : Nat) (h1 : HP) (j5 j6 j7 j8 : PV), t + m = n → (∀ c, (c ≠ 43 ∧ c ≠ 44) → h1 c = h c) → (∀ s : Nat, s < 2 ^ t → rd (h1 43) 64 s = SN w t s ∧ rd (h1 44) 64 s = SN pw t s) →
      X 23 [vR 41, vI (n : Int), vI j, vI (NM w t : Nat), vI (t : Int), j5, j6, j7, j8] [] (LC N) h1 0 0 := by
    intro m
    induction m with
    | zero =>
      intro t h1 j5 j6 j7 j8 ht hF hA
      have et : t = n := by omega
      subst et
      refine hX 8 [] 23 _ _ _ _ _ _ ?_
      refine And.intro (fun c26 => ?_) (fun c26 => absurd c26 (by omega))
      exact ⟨rfl, rfl, hF, hA⟩
    | succ m ih =>
      intro t h1 j5 j6 j7 j8 ht hF hA
      have htn : t < n := by omega
      have hsh := ii_shl t (by omega)
      have e42 : h1 42 = h 42 := hF 42 ⟨by decide, by decide⟩
      have e2 : 2 ^ (t + 1) = 2 ^ t + 2 ^ t := by rw [Nat.pow_succ]; omega
      have hnm := NM_lt w t
      refine hX 20 [47] 23 _ _ _ _ _ _ ?_
      refine And.intro (fun c26 => absurd c26 (by omega)) (fun c26 => ?_)
      refine Ok_rt (needOf_ok (i := (t : Int)) (j := j) ⟨by omega, by omega⟩ ⟨by omega, by omega⟩) ?_
      have ew : rd (h1 42) 24 ((t : Int) * 4 + j) = w t := by rw [e42, hw0]; rfl
      rw [ew]
      have ej : ∀ K : Int → Prop, K ((2 ^ t : Nat) : Int) → K (ishlI 1 (t : Int)) := fun K hh => by rw [hsh]; exact hh
      refine ej (fun z => X 47 [vR 41, vI (n : Int), vI j, vI (NM w t : Nat), vI (t : Int), vI z, vL (w t), vU, vI 0] [] (LC N) h1 0 0) ?_
      refine inner t htn (2 ^ t) 0 h1 (by omega) hF (fun s hs => ?_) (fun h2 hF2 hA2 => ?_)
      · have := hA s (by omega)
        have x1 : SN w (t + 1) s = SN w t s := by rw [SN, if_pos (by omega)]
        have x2 : SN pw (t + 1) s = SN pw t s := by rw [SN, if_pos (by omega)]
        rw [x1, x2]; exact this
      · refine hX 20 [23] 113 _ _ _ _ _ _ ?_
        refine And.intro (fun c117 => ?_) (fun c117 => ?_)
        · have c117 : w t ≤ 0 := c117
          refine And.intro ⟨by omega, by omega⟩ ?_
          have en : NM w (t + 1) = NM w t := by rw [NM, if_neg (by omega)]
          have := ih (t + 1) h2 (vI ((2 ^ t : Nat) : Int)) (vL (w t)) vU (vI ((2 ^ t : Nat) : Int)) (by omega) hF2 hA2
          rw [en] at this
          exact this
        · have c117 : 0 < w t := c117
          refine And.intro ⟨by omega, by omega⟩ ?_
          have en : NM w (t + 1) = NM w t + 2 ^ t := by rw [NM, if_pos c117]
          have hor := ii_or t (by omega) (NM w t) hnm
          have := ih (t + 1) h2 (vI ((2 ^ t : Nat) : Int)) (vL (w t)) vU (vI ((2 ^ t : Nat) : Int)) (by omega) hF2 hA2
          rw [en] at this
          have ek : ∀ K : Int → Prop, K ((NM w t + 2 ^ t : Nat) : Int) → K (iorI (NM w t : Nat) ((2 ^ t : Nat) : Int)) := fun K hh => by rw [hor]; exact hh
          exact ek (fun z => X 23 [vR 41, vI (n : Int), vI j, vI z, vI ((t : Int) + 1), vI ((2 ^ t : Nat) : Int), vL (w t), vU, vI ((2 ^ t : Nat) : Int)] [] (LC N) h2 0 0) this
  refine hX 20 [23] 0 _ _ _ _ _ _ ?_
  refine Ok_rt (putL_ok (a := 43) (len := 64) rfl (by decide)) ?_
  refine Ok_rt (put_ok (a := 44) (len := 64) rfl (by decide)) ?_
  refine outer n 0 _ _ _ _ _ (by omega) (fun c hc => ?_) (fun s hs => ?_)
  · rw [wrA_cell hc.2, wrA_cell hc.1]
  · have es : s = 0 := by simpa using hs
    subst es
    constructor
    · rw [← rd_A, rdA_wrA_oth (by decide), rdA_wrA, if_pos ⟨by decide, by decide, rfl⟩]; rfl
    · rw [← rd_A, rdA_wrA, if_pos ⟨by decide, by decide, rfl⟩]; rfl

end DEALER
