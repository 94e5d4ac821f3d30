/-! ===== names: letters packed; the model: isCalled, whichOf, find ===== -/
theorem lpk {a b : Int} (a0 : 0 ≤ a) (a1 : a < 36028797018963968) (b0 : 0 ≤ b) (b1 : b < 256) : lorI (lshlI a 8) b = a * 256 + b := by
  obtain ⟨n, rfl⟩ : ∃ n : Nat, a = n := ⟨a.toNat, by omega⟩
  obtain ⟨m, rfl⟩ : ∃ m : Nat, b = m := ⟨b.toNat, by omega⟩
  have e1 : (Int64.ofInt (n : Int) <<< ((Int32.ofInt 8).toInt64 &&& 63)).toBitVec = BitVec.ofInt 64 (n : Int) <<< 8 := rfl
  have e2 : (BitVec.ofInt 64 (n : Int) <<< 8).toNat = n * 256 := by
    rw [BitVec.toNat_shiftLeft, BitVec.toNat_ofInt, Nat.shiftLeft_eq]
    have : ((n : Int) % ((2 ^ 64 : Nat) : Int)).toNat = n := by
      have : ((2 ^ 64 : Nat) : Int) = 18446744073709551616 := by decide
      omega
    rw [this]
    have h8 : (2 : Nat) ^ 8 = 256 := rfl
    have h64 : (2 : Nat) ^ 64 = 18446744073709551616 := by decide
    rw [h8, h64]
    omega
  have e3 : lshlI (n : Int) 8 = ((n * 256 : Nat) : Int) := by
    unfold lshlI
    show (Int64.ofInt (n : Int) <<< ((Int32.ofInt 8).toInt64 &&& 63)).toBitVec.toInt = _
    rw [e1, BitVec.toInt_eq_toNat_of_lt (by rw [e2]; omega), e2]
  have e4 : (Int64.ofInt ((n * 256 : Nat) : Int) ||| Int64.ofInt (m : Int)).toBitVec = BitVec.ofInt 64 ((n * 256 : Nat) : Int) ||| BitVec.ofInt 64 (m : Int) := rfl
  have e5 : (BitVec.ofInt 64 ((n * 256 : Nat) : Int) ||| BitVec.ofInt 64 (m : Int)).toNat = n * 256 + m := by
    rw [BitVec.toNat_or, BitVec.toNat_ofInt, BitVec.toNat_ofInt]
    have h64 : ((2 ^ 64 : Nat) : Int) = 18446744073709551616 := by decide
    have x1 : (((n * 256 : Nat) : Int) % ((2 ^ 64 : Nat) : Int)).toNat = n * 256 := by rw [h64]; omega
    have x2 : ((m : Int) % ((2 ^ 64 : Nat) : Int)).toNat = m := by rw [h64]; omega
    rw [x1, x2]
    have s := Nat.shiftLeft_add_eq_or_of_lt (i := 8) (b := m) (by have : (2 : Nat) ^ 8 = 256 := rfl; omega) n
    rw [Nat.shiftLeft_eq, show (2 : Nat) ^ 8 = 256 from rfl] at s
    exact s.symm
  rw [e3]
  unfold lorI
  show (Int64.ofInt ((n * 256 : Nat) : Int) ||| Int64.ofInt (m : Int)).toBitVec.toInt = _
  rw [e4, BitVec.toInt_eq_toNat_of_lt (by rw [e5]; omega), e5]
  omega
/-- n letters as one number -/
def pkN (g : Nat → Int) : Nat → Int
  | 0 => 0
  | n + 1 => pkN g n * 256 + g n
def ltr (x : Int) : Prop := 97 ≤ x ∧ x ≤ 122
theorem pkN_bd {g : Nat → Int} : ∀ n, (∀ k, k < n → ltr (g k)) → 0 ≤ pkN g n ∧ 2 * pkN g n + 1 ≤ 256 ^ n ∧ (n ≠ 0 → 97 ≤ pkN g n)
  | 0, _ => ⟨by unfold pkN; omega, by unfold pkN; decide, fun h => absurd rfl h⟩
  | n + 1, h => by
    have ih := pkN_bd n (fun k hk => h k (by omega))
    have g1 := h n (by omega)
    unfold ltr at g1
    have e : (256 : Int) ^ (n + 1) = 256 ^ n * 256 := Int.pow_succ _ _
    unfold pkN
    rw [e]
    refine ⟨by omega, by omega, fun _ => by omega⟩
theorem pkN_congr {g g' : Nat → Int} : ∀ n, (∀ k, k < n → g k = g' k) → pkN g n = pkN g' n
  | 0, _ => rfl
  | n + 1, h => by unfold pkN; rw [pkN_congr n (fun k hk => h k (by omega)), h n (by omega)]
theorem pkN_inj {g g' : Nat → Int} : ∀ n n', (∀ k, k < n → ltr (g k)) → (∀ k, k < n' → ltr (g' k)) → pkN g n = pkN g' n' → n = n' ∧ ∀ k, k < n → g k = g' k
  | 0, 0, _, _, _ => ⟨rfl, fun k hk => absurd hk (Nat.not_lt_zero _)⟩
  | 0, n' + 1, _, h', e => by
    have b := (pkN_bd (n' + 1) h').2.2 (by omega)
    have : pkN g 0 = 0 := rfl
    omega
  | n + 1, 0, h, _, e => by
    have b := (pkN_bd (n + 1) h).2.2 (by omega)
    have : pkN g' 0 = 0 := rfl
    omega
  | n + 1, n' + 1, h, h', e => by
    have g1 := h n (by omega)
    have g2 := h' n' (by omega)
    unfold ltr at g1 g2
    have e1 : pkN g n * 256 + g n = pkN g' n' * 256 + g' n' := e
    have ih := pkN_inj n n' (fun k hk => h k (by omega)) (fun k hk => h' k (by omega)) (by omega)
    obtain ⟨i1, i2⟩ := ih
    subst i1
    refine ⟨rfl, fun k hk => ?_⟩
    by_cases z : k = n
    · subst z; omega
    · exact i2 k (by omega)
theorem pkL_ok {f : Int → Int} {g : Nat → Int} : ∀ (m i : Nat), i + m ≤ 8 → (∀ k, k < i → ltr (g k)) → (∀ k, i ≤ k → k < i + m → g k = f k ∧ ltr (g k)) → pkL f m i (pkN g i) = pkN g (i + m)
  | 0, i, _, _, _ => rfl
  | m + 1, i, h8, hl, hg => by
    have gi := hg i (by omega) (by omega)
    have l := gi.2
    unfold ltr at l
    have b := pkN_bd i hl
    have p : (256 : Int) ^ i ≤ 72057594037927936 := by
      have : ∀ j, j ≤ 7 → (256 : Int) ^ j ≤ 72057594037927936 := by decide
      exact this i (by omega)
    unfold pkL
    rw [← gi.1, if_pos l, lpk b.1 (by omega) (by omega) (by omega)]
    have e : ((i : Int) + 1) = ((i + 1 : Nat) : Int) := rfl
    have e2 : pkN g i * 256 + g i = pkN g (i + 1) := rfl
    rw [e, e2, show i + (m + 1) = i + 1 + m by omega]
    exact pkL_ok m (i + 1) (by omega) (fun k hk => by
      by_cases z : k = i
      · rw [z]; exact gi.2
      · exact hl k (by omega)) (fun k k1 k2 => hg k (by omega) (by omega))
theorem pkL_no {f : Int → Int} : ∀ (m i : Nat) (a : Int), (∃ k : Nat, i ≤ k ∧ k < i + m ∧ ¬ ltr (f k)) → pkL f m i a = 0
  | 0, i, a, ⟨k, k1, k2, _⟩ => by omega
  | m + 1, i, a, ⟨k, k1, k2, k3⟩ => by
    unfold pkL
    by_cases z : 97 ≤ f i ∧ f i ≤ 122
    · rw [if_pos z]
      have : k ≠ i := fun y => k3 (by rw [y]; exact z)
      exact pkL_no m (i + 1) _ ⟨k, by omega, by omega, k3⟩
    · rw [if_neg z]
/-- the name at row j, as the class's number -/
def nmOK (f : Nat → Int) (j : Nat) (v : Int) : Prop := ∃ len : Nat, (1 ≤ len ∧ len ≤ 8) ∧ (∀ k, k < len → ltr (f (8 * j + k))) ∧ (∀ k, len ≤ k → k < 8 → f (8 * j + k) = 0) ∧ v = pkN (fun k => f (8 * j + k)) len
/-- len letters t are the name -/
def sameN (t : Nat → Int) (f : Nat → Int) (j : Nat) : Prop := ∀ k, k < 8 → t k = f (8 * j + k)
theorem name_eq {t : Nat → Int} {f : Nat → Int} {x : Int → Int} {j len : Nat} {v : Int} (hn : nmOK f j v) (h1 : 1 ≤ len) (h8 : len ≤ 8) (hx : ∀ k, k < len → t k = x k ∧ t k ≠ 0) (h0 : ∀ k, len ≤ k → k < 8 → t k = 0) : sameN t f j ↔ v = pkL x len 0 0 := by
  obtain ⟨l, ⟨l1, l8⟩, hl, hz, hv⟩ := hn
  have nz : ∀ k, k < l → f (8 * j + k) ≠ 0 := fun k hk => by have := hl k hk; unfold ltr at this; omega
  constructor
  · intro hs
    have el : len = l := by
      by_cases z : len < l
      · have := hs len (by omega)
        rw [h0 len (Nat.le_refl _) (by omega)] at this
        exact absurd this.symm (nz len z)
      · by_cases y : l < len
        · have := hs l (by omega)
          rw [hz l (Nat.le_refl _) (by omega)] at this
          exact absurd this (hx l y).2
        · omega
    subst el
    have e := pkL_ok (f := x) (g := t) len 0 (by omega) (fun k hk => absurd hk (Nat.not_lt_zero _)) (fun k _ k2 => ⟨(hx k (by omega)).1, by rw [hs k (by omega)]; exact hl k (by omega)⟩)
    rw [Nat.zero_add] at e
    have e0 : pkN t 0 = 0 := rfl
    rw [e0] at e
    have e3 : pkL x len 0 0 = pkN t len := e
    rw [hv, e3]
    exact (pkN_congr len (fun k hk => hs k (by omega))).symm
  · intro he
    by_cases hall : ∀ k, k < len → ltr (x k)
    · have e := pkL_ok (f := x) (g := t) len 0 (by omega) (fun k hk => absurd hk (Nat.not_lt_zero _)) (fun k _ k2 => ⟨(hx k (by omega)).1, by rw [(hx k (by omega)).1]; exact hall k (by omega)⟩)
      rw [Nat.zero_add] at e
      have e0 : pkN t 0 = 0 := rfl
      rw [e0] at e
      have e3 : pkL x len 0 0 = pkN t len := e
      rw [hv, e3] at he
      have ij := pkN_inj l len hl (fun k hk => by rw [(hx k hk).1]; exact hall k hk) he
      intro k hk
      by_cases z : k < l
      · exact (ij.2 k z).symm
      · rw [hz k (by omega) hk, h0 k (by omega) hk]
    · exfalso
      have hex : ∃ k : Nat, 0 ≤ k ∧ k < 0 + len ∧ ¬ ltr (x k) := by
        by_cases z : ∃ k : Nat, 0 ≤ k ∧ k < 0 + len ∧ ¬ ltr (x k)
        · exact z
        · exact absurd (fun k hk => by
            by_cases y : ltr (x k)
            · exact y
            · exact absurd ⟨k, by omega, by omega, y⟩ z) hall
      have e := pkL_no (f := x) len 0 0 hex
      have e2 : pkL x len 0 0 = 0 := e
      have b := (pkN_bd l hl).2.2 (by omega)
      omega
section MFIND
variable {M : List CT} {h : HP} {i j a b : Int} {n : Nat}
theorem m_byteAt (h0 : 0 ≤ i) (hi : i < h 50 18) (he : h 50 18 ≤ 1500) : Ok 180 [vR 50, vI i] (LL M) h (rt (some (vI (h 61 i.toNat))) (LL M) h) := by
  refine ok_body B_X9_byteAt rfl (fun X hX => ?_)
  refine hX 20 [] 0 _ _ _ _ _ _ ?_
  refine And.intro (fun c5 => absurd (show h 50 18 ≤ i from c5) (by omega)) (fun c5 => ?_)
  refine And.intro ⟨by omega, by omega⟩ ?_
  exact rt_mk rfl rfl
theorem m_byteAt_e (hi : h 50 18 ≤ i) : Ok 180 [vR 50, vI i] (LL M) h (rt (some (vI (-1))) (LL M) h) := by
  refine ok_body B_X9_byteAt rfl (fun X hX => ?_)
  refine hX 20 [] 0 _ _ _ _ _ _ ?_
  refine And.intro (fun c5 => ?_) (fun c5 => absurd (show i < h 50 18 from c5) (by omega))
  exact rt_mk rfl rfl
/-- the letters of the token that stands here -/
def tkL (h : HP) (k : Nat) : Int := if h 50 20 + (k : Int) < h 50 19 then h 61 (h 50 20 + (k : Int)).toNat else 0
/-- where the token stands -/
def tkIn (h : HP) : Prop := 0 ≤ h 50 20 ∧ h 50 20 ≤ h 50 19 ∧ h 50 19 ≤ h 50 18 ∧ h 50 18 ≤ 1500
theorem m_isCalled {nc : Nat} (hnc : nc = 56 ∨ nc = 68) (ht : tkIn h) (hn : n < 24) : Ok 191 [vR 50, vR nc, vI (n : Int)] (LL M) h (fun o Λ' h' => Λ' = LL M ∧ h' = h ∧ ∃ x, o = .inl (some (vI x)) ∧ bI x (sameN (tkL h) (h nc) n)) := by
  obtain ⟨t0, t1, t2, t3⟩ := ht
  rcases hnc with rfl | rfl
  · refine ok_body B_X9_isCalled rfl (fun X hX => ?_)
    have loop : ∀ (f k : Nat) (j4 : PV), k + f = 8 → (∀ q, q < k → tkL h q = h 56 (8 * n + q)) → X 2 [vR 50, vR 56, vI (n : Int), vI (k : Int), j4] [] (LL M) h 0 0 := by
      intro f
      induction f with
      | zero =>
        intro k j4 hk hq
        refine hX 20 [] 2 _ _ _ _ _ _ ?_
        refine And.intro (fun _ => ?_) (fun c5 => absurd c5 (by omega))
        exact And.intro ⟨by decide, by decide⟩ ⟨rfl, rfl, 1, rfl, Or.inl ⟨fun q hq2 => hq q (by omega), rfl⟩⟩
      | succ f ih =>
        intro k j4 hk hq
        have fin : ∀ v, v = tkL h k → X 35 [vR 50, vR 56, vI (n : Int), vI (k : Int), j4] [vI v] (LL M) h 0 0 := by
          intro v hv
          subst hv
          refine hX 30 [2, 37] 35 _ _ _ _ _ _ ?_
          show X 37 [_, _, _, _, _] _ _ _ _ _
          refine hX 30 [2] 37 _ _ _ _ _ _ ?_
          refine And.intro ⟨by omega, by omega⟩ ?_
          refine And.intro ⟨by omega, by omega⟩ ?_
          refine And.intro ⟨by omega, by omega⟩ ?_
          have et : h 56 (8 * (n : Int) + (k : Int)).toNat = h 56 (8 * n + k) := by rw [show (8 * (n : Int) + (k : Int)).toNat = 8 * n + k by omega]
          rw [et]
          refine And.intro (fun c47 => ?_) (fun c47 => ?_)
          · refine And.intro ⟨by omega, by omega⟩ ?_
            refine ih (k + 1) _ (by omega) (fun q hq2 => ?_)
            by_cases z : q = k
            · rw [z]; exact c47.symm
            · exact hq q (by omega)
          · exact And.intro ⟨by decide, by decide⟩ ⟨rfl, rfl, 0, rfl, Or.inr ⟨fun z => c47 (z k (by omega)).symm, rfl⟩⟩
        refine hX 30 [2, 35] 2 _ _ _ _ _ _ ?_
        refine And.intro (fun c5 => absurd c5 (by omega)) (fun c5 => ?_)
        refine And.intro ⟨by omega, by omega⟩ ?_
        refine And.intro (fun c18 => ?_) (fun c18 => ?_)
        · have c18 : h 50 19 ≤ h 50 20 + (k : Int) := c18
          exact fin _ (by unfold tkL; rw [if_neg (by omega)])
        · have c18 : h 50 20 + (k : Int) < h 50 19 := c18
          refine And.intro ⟨by omega, by omega⟩ ?_
          refine Ok_rt (m_byteAt (by omega) (show h 50 20 + (k : Int) < h 50 18 by omega) t3) ?_
          exact fin _ (by unfold tkL; rw [if_pos c18])
    refine hX 10 [2] 0 _ _ _ _ _ _ ?_
    exact loop 8 0 _ (by omega) (fun q hq => absurd hq (Nat.not_lt_zero _))
  · refine ok_body B_X9_isCalled rfl (fun X hX => ?_)
    have loop : ∀ (f k : Nat) (j4 : PV), k + f = 8 → (∀ q, q < k → tkL h q = h 68 (8 * n + q)) → X 2 [vR 50, vR 68, vI (n : Int), vI (k : Int), j4] [] (LL M) h 0 0 := by
      intro f
      induction f with
      | zero =>
        intro k j4 hk hq
        refine hX 20 [] 2 _ _ _ _ _ _ ?_
        refine And.intro (fun _ => ?_) (fun c5 => absurd c5 (by omega))
        exact And.intro ⟨by decide, by decide⟩ ⟨rfl, rfl, 1, rfl, Or.inl ⟨fun q hq2 => hq q (by omega), rfl⟩⟩
      | succ f ih =>
        intro k j4 hk hq
        have fin : ∀ v, v = tkL h k → X 35 [vR 50, vR 68, vI (n : Int), vI (k : Int), j4] [vI v] (LL M) h 0 0 := by
          intro v hv
          subst hv
          refine hX 30 [2, 37] 35 _ _ _ _ _ _ ?_
          show X 37 [_, _, _, _, _] _ _ _ _ _
          refine hX 30 [2] 37 _ _ _ _ _ _ ?_
          refine And.intro ⟨by omega, by omega⟩ ?_
          refine And.intro ⟨by omega, by omega⟩ ?_
          refine And.intro ⟨by omega, by omega⟩ ?_
          have et : h 68 (8 * (n : Int) + (k : Int)).toNat = h 68 (8 * n + k) := by rw [show (8 * (n : Int) + (k : Int)).toNat = 8 * n + k by omega]
          rw [et]
          refine And.intro (fun c47 => ?_) (fun c47 => ?_)
          · refine And.intro ⟨by omega, by omega⟩ ?_
            refine ih (k + 1) _ (by omega) (fun q hq2 => ?_)
            by_cases z : q = k
            · rw [z]; exact c47.symm
            · exact hq q (by omega)
          · exact And.intro ⟨by decide, by decide⟩ ⟨rfl, rfl, 0, rfl, Or.inr ⟨fun z => c47 (z k (by omega)).symm, rfl⟩⟩
        refine hX 30 [2, 35] 2 _ _ _ _ _ _ ?_
        refine And.intro (fun c5 => absurd c5 (by omega)) (fun c5 => ?_)
        refine And.intro ⟨by omega, by omega⟩ ?_
        refine And.intro (fun c18 => ?_) (fun c18 => ?_)
        · have c18 : h 50 19 ≤ h 50 20 + (k : Int) := c18
          exact fin _ (by unfold tkL; rw [if_neg (by omega)])
        · have c18 : h 50 20 + (k : Int) < h 50 19 := c18
          refine And.intro ⟨by omega, by omega⟩ ?_
          refine Ok_rt (m_byteAt (by omega) (show h 50 20 + (k : Int) < h 50 18 by omega) t3) ?_
          exact fin _ (by unfold tkL; rw [if_pos c18])
    refine hX 10 [2] 0 _ _ _ _ _ _ ?_
    exact loop 8 0 _ (by omega) (fun q hq => absurd hq (Nat.not_lt_zero _))
/-- the first of many names that stands here, -1 -/
def whI (P : Nat → Prop) (m : Nat) (r : Int) : Prop := (r = -1 ∧ ∀ q, q < m → ¬ P q) ∨ ∃ q : Nat, q < m ∧ r = (q : Int) ∧ P q ∧ ∀ q', q' < q → ¬ P q'
theorem m_whichOf {nc f m : Nat} (hnc : nc = 56 ∨ nc = 68) (ht : tkIn h) (hn : f + m ≤ 24) : Ok 192 [vR 50, vR nc, vI (f : Int), vI (m : Int)] (LL M) h (fun o Λ' h' => Λ' = LL M ∧ h' = h ∧ ∃ r, o = .inl (some (vI r)) ∧ whI (fun q => sameN (tkL h) (h nc) (f + q)) m r) := by
  refine ok_body B_X9_whichOf rfl (fun X hX => ?_)
  have loop : ∀ (e q : Nat), q + e = m → (∀ q', q' < q → ¬ sameN (tkL h) (h nc) (f + q')) → X 3 [vR 50, vR nc, vI (f : Int), vI (m : Int), vI (q : Int)] [] (LL M) h 0 0 := by
    intro e
    induction e with
    | zero =>
      intro q hq hno
      refine hX 20 [] 3 _ _ _ _ _ _ ?_
      refine And.intro (fun _ => ?_) (fun c6 => absurd c6 (by omega))
      exact ⟨rfl, rfl, -1, rfl, Or.inl ⟨rfl, fun q' hq' => hno q' (by omega)⟩⟩
    | succ e ih =>
      intro q hq hno
      have ic := m_isCalled (M := M) (h := h) (n := f + q) hnc ht (by omega)
      rw [show ((f + q : Nat) : Int) = (f : Int) + (q : Int) from rfl] at ic
      refine hX 20 [3] 3 _ _ _ _ _ _ ?_
      refine And.intro (fun c6 => absurd c6 (by omega)) (fun c6 => ?_)
      refine And.intro ⟨by omega, by omega⟩ ?_
      refine Ok_mono (fun o' Λ' h2 hpost => ?_) ic
      obtain ⟨e1, e2, x9, e3, hb⟩ := hpost
      subst e1
      rw [e2, e3]
      rcases hb with ⟨y, rfl⟩ | ⟨y, rfl⟩
      · refine And.intro (fun c9 => absurd c9 (by decide)) (fun _ => ?_)
        exact ⟨rfl, rfl, (q : Int), rfl, Or.inr ⟨q, by omega, rfl, y, hno⟩⟩
      · refine And.intro (fun _ => ?_) (fun c9 => absurd rfl c9)
        refine And.intro ⟨by omega, by omega⟩ ?_
        refine ih (q + 1) (by omega) (fun q' hq' => ?_)
        by_cases z : q' = q
        · rw [z]; exact y
        · exact hno q' (by omega)
  refine hX 10 [3] 0 _ _ _ _ _ _ ?_
  exact loop m 0 (by omega) (fun q' hq' => absurd hq' (Nat.not_lt_zero _))
end MFIND
