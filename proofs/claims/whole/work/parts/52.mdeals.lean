/-! ===== the model: deals ===== -/
/-- what deals reads: lots, pieces and needs -/
def DlC (h : HP) (st : Nat → Int) (c : Int) (w : Nat → Int) (np L : Nat) : Prop := (h 57 3 = (L : Int) ∧ L ≤ 10) ∧ (∀ k : Nat, k < L → h 57 (112 + 2 * k) = rd st 132 (4 + (k : Int)) ∧ h 57 (112 + 2 * k + 1) = rd st 132 (14 + (k : Int)) ∧ 0 ≤ rd st 132 (14 + (k : Int)) ∧ rd st 132 (14 + (k : Int)) ≤ 9999) ∧
  (h 50 4 = (np : Int) ∧ np ≤ 6) ∧ (0 ≤ c ∧ c ≤ 3) ∧ (∀ p, 0 ≤ w p ∧ w p ≤ 10000000000000) ∧ ∀ p : Nat, p < np → h 72 (4 * (p : Int) + c).toNat = w p
def nxP (st : Nat → Int) (c : Int) (d : Nat → Nat) (n : Nat) (lf : Nat → Int) (qn u most : Int) (k : Nat) : Prop := rd st 132 (4 + (k : Int)) = c ∧ qn ≤ lf k ∧ u + nwF d n k ≤ most
section MDEALS
variable {M : List CT} {h : HP} {c most u : Int} {st w : Nat → Int} {np L n k b : Nat} {d : Nat → Nat}
theorem m_isUsed (hn : n ≤ 6) (hd : ∀ j, j < n → h 74 j = (d j : Int)) : Ok 251 [vR 50, vI (n : Int), vI (k : Int)] (LL M) h (rt (some (vI (if anyB (fun j => d j == k) n = true then 1 else 0))) (LL M) h) := by
  refine ok_body B_X9_isUsedAhead rfl (fun X hX => ?_)
  have loop : ∀ (m q : Nat), q + m = n → X 5 [vR 50, vI (n : Int), vI (k : Int), vI (if anyB (fun j => d j == k) q = true then 1 else 0), vI (q : Int)] [] (LL M) h 0 0 := by
    intro m
    induction m with
    | zero =>
      intro q hq
      have e : q = n := by omega
      subst e
      refine hX 8 [] 5 _ _ _ _ _ _ ?_
      refine And.intro (fun c8 => ?_) (fun c8 => absurd c8 (by omega))
      exact And.intro (by split <;> exact ⟨by decide, by decide⟩) (rt_mk rfl rfl)
    | succ m ih =>
      intro q hq
      have nxt : ∀ v a, v = (if anyB (fun j => d j == k) (q + 1) = true then (1 : Int) else 0) → X 31 [vR 50, vI (n : Int), vI (k : Int), vI a, vI (q : Int)] [vI v] (LL M) h 0 0 := by
        intro v a hv1
        subst hv1
        refine hX 10 [32] 31 _ _ _ _ _ _ ?_
        show X 32 [_, _, _, _, _] _ _ _ _ _
        refine hX 10 [5] 32 _ _ _ _ _ _ ?_
        refine And.intro ⟨by omega, by omega⟩ ?_
        exact ih (q + 1) (by omega)
      have eq : h 74 (q : Int).toNat = (d q : Int) := by rw [Int.toNat_natCast]; exact hd q (by omega)
      refine hX 20 [31] 5 _ _ _ _ _ _ ?_
      refine And.intro (fun c8 => absurd c8 (by omega)) (fun c8 => ?_)
      refine And.intro (fun c12 => ?_) (fun c12 => ?_)
      · refine nxt _ _ ?_
        by_cases z : anyB (fun j => d j == k) q = true
        · rw [if_pos (show anyB (fun j => d j == k) (q + 1) = true by show (anyB (fun j => d j == k) q || d q == k) = true; rw [z]; rfl)]
        · exact absurd (if_neg z) c12
      · have z : ¬ anyB (fun j => d j == k) q = true := fun z => by
          have c12 : (if anyB (fun j => d j == k) q = true then (1 : Int) else 0) = 0 := c12
          rw [if_pos z] at c12; exact absurd c12 (by decide)
        have zf : anyB (fun j => d j == k) q = false := by simpa using z
        refine And.intro ⟨by omega, by omega⟩ ?_
        rw [eq]
        refine And.intro (fun c23 => ?_) (fun c23 => ?_)
        · refine nxt _ _ ?_
          have y : ¬ d q = k := fun y => c23 (by rw [y])
          rw [if_neg (show ¬ anyB (fun j => d j == k) (q + 1) = true by show ¬ (anyB (fun j => d j == k) q || d q == k) = true; rw [zf]; simpa using y)]
        · refine nxt _ _ ?_
          have y : d q = k := by have c23 : (d q : Int) = (k : Int) := c23; omega
          rw [if_pos (show anyB (fun j => d j == k) (q + 1) = true by show (anyB (fun j => d j == k) q || d q == k) = true; rw [y]; simp)]
  refine hX 10 [2, 5] 0 _ _ _ _ _ _ ?_
  show X 2 [_, _, _, _, _] _ _ _ _ _
  refine hX 10 [5] 2 _ _ _ _ _ _ ?_
  exact loop n 0 (by omega)
theorem m_nextLot (hD : DlC h st c w np L) (hn : n < 6) (hb : h 74 n = (b : Int) - 1) (hd : ∀ j, j < n → h 74 j = (d j : Int)) (hw : h 75 n = (k : Int)) (hk : k < np) (hu : 0 ≤ u ∧ u ≤ 100) (hb1 : b ≤ 100) :
    Ok 252 [vR 50, vI c, vI (n : Int), vI most, vI u] (LL M) h (fun o Λ' h' => Λ' = LL M ∧ h' = h ∧ ((o = .inl (some (vI (-1))) ∧ ∀ l, b ≤ l → l < L → ¬ nxP st c d n (h 73) (w k) u most l) ∨
      ∃ l, b ≤ l ∧ l < L ∧ nxP st c d n (h 73) (w k) u most l ∧ (∀ l', b ≤ l' → l' < l → ¬ nxP st c d n (h 73) (w k) u most l') ∧ o = .inl (some (vI (l : Int))))) := by
  obtain ⟨⟨hL, hL10⟩, hlot, ⟨hnp, hnp6⟩, hc, hw0, hwn⟩ := hD
  refine ok_body B_X9_nextLot rfl (fun X hX => ?_)
  have ew : h 72 (4 * (k : Int) + c).toNat = w k := hwn k hk
  have loop : ∀ (m l : Nat) (j6 : PV), L ≤ l + m → b ≤ l → l ≤ 1000 → (∀ l', b ≤ l' → l' < l → ¬ nxP st c d n (h 73) (w k) u most l') → X 10 [vR 50, vI c, vI (n : Int), vI most, vI u, vI (l : Int), j6] [] (LL M) h 0 0 := by
    intro m
    induction m with
    | zero =>
      intro l j6 hm hl hl1 hno
      refine hX 20 [] 10 _ _ _ _ _ _ ?_
      refine And.intro ⟨by omega, by omega⟩ ?_
      have hL' : h 57 (3 : Int).toNat = (L : Int) := hL
      rw [hL']
      refine And.intro (fun c18 => ?_) (fun c18 => absurd c18 (by omega))
      exact ⟨rfl, rfl, Or.inl ⟨rfl, fun l' h1 h2 => hno l' h1 (by omega)⟩⟩
    | succ m ih =>
      intro l j6 hm hl hl1 hno
      by_cases hlL : l < L
      · have lo := hlot l hlL
        have skip : ∀ (j6 : PV), ¬ nxP st c d n (h 73) (w k) u most l → X 100 [vR 50, vI c, vI (n : Int), vI most, vI u, vI (l : Int), j6] [] (LL M) h 0 0 := by
          intro j6 hno2
          refine hX 10 [10] 100 _ _ _ _ _ _ ?_
          refine And.intro ⟨by omega, by omega⟩ ?_
          refine ih (l + 1) j6 (by omega) (by omega) (by omega) (fun l' h1 h2 => ?_)
          by_cases z : l' = l
          · rw [z]; exact hno2
          · exact hno l' h1 (by omega)
        have unfit : ∀ (j6 : PV), ¬ nxP st c d n (h 73) (w k) u most l → X 67 [vR 50, vI c, vI (n : Int), vI most, vI u, vI (l : Int), j6] [] (LL M) h 0 0 := by
          intro j6 hno2
          refine hX 10 [70] 67 _ _ _ _ _ _ ?_
          show X 70 [_, _, _, _, _, _, _] _ _ _ _ _
          refine hX 10 [100] 70 _ _ _ _ _ _ ?_
          exact And.intro (fun _ => skip _ hno2) (fun c72 => absurd rfl c72)
        have e1 : h 57 (112 + 2 * (l : Int)).toNat = rd st 132 (4 + (l : Int)) := by rw [show (112 + 2 * (l : Int)).toNat = 112 + 2 * l by omega]; exact lo.1
        have e2 : h 57 (3 : Int).toNat = (L : Int) := hL
        have e3 : h 75 (n : Int).toNat = (k : Int) := by rw [Int.toNat_natCast]; exact hw
        refine hX 60 [67, 70] 10 _ _ _ _ _ _ ?_
        refine And.intro ⟨by omega, by omega⟩ ?_
        rw [e2]
        refine And.intro (fun c18 => absurd c18 (by omega)) (fun c18 => ?_)
        refine And.intro ⟨by omega, by omega⟩ ?_
        refine And.intro ⟨by omega, by omega⟩ ?_
        refine And.intro ⟨by omega, by omega⟩ ?_
        rw [e1]
        refine And.intro (fun c34 => unfit _ (fun y => c34 y.1)) (fun c34 => ?_)
        refine And.intro ⟨by omega, by omega⟩ ?_
        refine And.intro ⟨by omega, by omega⟩ ?_
        rw [e3]
        refine And.intro ⟨by omega, by omega⟩ ?_
        refine And.intro ⟨by omega, by omega⟩ ?_
        refine And.intro ⟨by omega, by omega⟩ ?_
        rw [ew, show (l : Int).toNat = l from Int.toNat_natCast l]
        refine And.intro (fun c60 => unfit _ (fun y => absurd (show h 73 l < w k from c60) (by have := y.2.1; omega))) (fun c60 => ?_)
        have c60 : w k ≤ h 73 l := c60
        show X 70 [_, _, _, _, _, _, _] _ _ _ _ _
        have nb := nwF_bd d n l
        have fin : ∀ x, x = u + nwF d n l → X 93 [vR 50, vI c, vI (n : Int), vI most, vI u, vI (l : Int), vI 1] [vI x] (LL M) h 0 0 := by
          intro x hx
          refine hX 20 [100] 93 _ _ _ _ _ _ ?_
          refine And.intro (fun c94 => skip _ (fun y => absurd y.2.2 (by omega))) (fun c94 => ?_)
          exact ⟨rfl, rfl, Or.inr ⟨l, hl, hlL, ⟨c34, by omega, by omega⟩, hno, rfl⟩⟩
        refine hX 30 [93, 100] 70 _ _ _ _ _ _ ?_
        refine And.intro (fun c72 => absurd c72 (by decide)) (fun _ => ?_)
        refine Ok_rt (m_isUsed (by omega) hd) ?_
        unfold nwF at fin nb
        refine And.intro (fun c84 => ?_) (fun c84 => ?_)
        · refine And.intro ⟨by omega, by omega⟩ ?_
          refine fin _ ?_
          by_cases z : anyB (fun j => d j == l) n = true
          · have c84 : (if anyB (fun j => d j == l) n = true then (1 : Int) else 0) = 0 := c84
            rw [if_pos z] at c84; exact absurd c84 (by decide)
          · rw [if_neg z]
        · refine And.intro ⟨by omega, by omega⟩ ?_
          refine fin _ ?_
          by_cases z : anyB (fun j => d j == l) n = true
          · rw [if_pos z]
          · exact absurd (if_neg z) c84
      · refine hX 20 [] 10 _ _ _ _ _ _ ?_
        refine And.intro ⟨by omega, by omega⟩ ?_
        have hL' : h 57 (3 : Int).toNat = (L : Int) := hL
        rw [hL']
        refine And.intro (fun c18 => ?_) (fun c18 => absurd c18 (by omega))
        exact ⟨rfl, rfl, Or.inl ⟨rfl, fun l' h1 h2 => hno l' h1 (by omega)⟩⟩
  have hb' : h 74 (n : Int).toNat = (b : Int) - 1 := by rw [Int.toNat_natCast]; exact hb
  refine hX 20 [10] 0 _ _ _ _ _ _ ?_
  refine And.intro ⟨by omega, by omega⟩ ?_
  rw [hb']
  refine And.intro ⟨by omega, by omega⟩ ?_
  rw [show (b : Int) - 1 + 1 = (b : Int) by omega]
  show X 10 [_, _, _, _, _, _, _] _ _ _ _ _
  exact loop L b _ (by omega) (Nat.le_refl _) (by omega) (fun l' h1 h2 => absurd h2 (by omega))
/-- the search with n lots dealt -/
def SrS (h2 h1 : HP) (st w : Nat → Int) (np L : Nat) (d : Nat → Nat) (n : Nat) (u : Int) : Prop := (∀ x, x ≠ 73 → x ≠ 74 → h1 x = h2 x) ∧ (∀ i, i < n → h1 74 i = (d i : Int)) ∧ (∀ k : Nat, k < L → h1 73 k = rmC st k - ldF (fun i => w (wp w np i)) d n k) ∧ u = ctF d n
def FrD4 (h h1 : HP) : Prop := (∀ x, x ≠ 50 → x ≠ 73 → x ≠ 74 → x ≠ 75 → h1 x = h x) ∧ ∀ q, q ≠ 46 → h1 50 q = h 50 q
/-- what deals leaves -/
def dlP (M : List CT) (h : HP) (st : Nat → Int) (c : Int) (w : Nat → Int) (np L : Nat) (most : Int) : Post := fun o Λ' h' => Λ' = LL M ∧ FrD4 h h' ∧ h' 50 46 = (wi w np : Int) ∧ (∀ i, i < wi w np → h' 75 i = (wp w np i : Int)) ∧
  ((o = .inl (some (vI 1)) ∧ ∃ d, Vd st c w np L most d ∧ LexLow (Vd st c w np L most) d (wi w np) ∧ ∀ i, i < wi w np → h' 74 i = (d i : Int)) ∨ (o = .inl (some (vI 0)) ∧ ∀ e, ¬ Vd st c w np L most e))
theorem ld_bd {q : Nat → Int} {d : Nat → Nat} {n k : Nat} (hq : ∀ i, 0 ≤ q i ∧ q i ≤ 10000000000000) : 0 ≤ ldF q d n k ∧ ldF q d n k ≤ (n : Int) * 10000000000000 := sumN_bd (fun j _ => by
  show 0 ≤ (if d j = k then q j else 0) ∧ (if d j = k then q j else 0) ≤ 10000000000000
  have := hq j
  split <;> omega)
theorem DlC_of {h h' : HP} (H : DlC h st c w np L) (e57 : h' 57 = h 57) (e72 : h' 72 = h 72) (e50 : h' 50 4 = h 50 4) : DlC h' st c w np L := by
  unfold DlC at *
  rw [e57, e72, e50]
  exact H
theorem m_deals (hD : DlC h st c w np L) (hm : 0 ≤ most ∧ most ≤ 6) : Ok 253 [vR 50, vI c, vI most] (LL M) h (dlP M h st c w np L most) := by
  obtain ⟨⟨hL, hL10⟩, hlot, ⟨hnp, hnp6⟩, hc, hw0, hwn⟩ := id hD
  have hm6 := wi_le w np
  obtain ⟨q, hq⟩ : ∃ q : Nat → Int, q = fun i => w (wp w np i) := ⟨_, rfl⟩
  have hq0 : ∀ i, 0 ≤ q i ∧ q i ≤ 10000000000000 := fun i => by rw [hq]; exact hw0 _
  have hV : ∀ e, Vd st c w np L most e ↔ Vp (okC st c) (rmC st) q L most e (wi w np) := fun e => by rw [hq]; exact Iff.rfl
  have rmb : ∀ k : Nat, k < L → 0 ≤ rmC st k ∧ rmC st k ≤ 9999000 := fun k hk => by have := hlot k hk; unfold rmC; omega
  refine ok_body B_X9_deals rfl (fun X hX => ?_)
  -- the search
  have srch : ∀ h2 : HP, FrD4 h h2 → h2 50 46 = (wi w np : Int) → (∀ i, i < wi w np → h2 75 i = (wp w np i : Int)) → DlC h2 st c w np L →
      ∀ h1 j5 j6, SrS h2 h1 st w np L (fun _ => 0) 0 0 → h1 74 0 = -1 → X 113 [vR 50, vI c, vI most, vI 0, vI 0, j5, j6] [] (LL M) h1 0 0 := by
    intro h2 hF2 h46 h75 hD2
    have stop : ∀ (n : Int) (h1 : HP) (u : Int) (j5 j6 : PV), (∀ x, x ≠ 73 → x ≠ 74 → h1 x = h2 x) → ((n = (wi w np : Int) ∧ ∃ d, Vd st c w np L most d ∧ LexLow (Vd st c w np L most) d (wi w np) ∧ ∀ i, i < wi w np → h1 74 i = (d i : Int)) ∨ (n ≠ (wi w np : Int) ∧ ∀ e, ¬ Vd st c w np L most e)) →
        X 281 [vR 50, vI c, vI most, vI n, vI u, j5, j6] [] (LL M) h1 0 0 := by
      intro n h1 u j5 j6 hf hor
      have f46 : h1 50 46 = (wi w np : Int) := by rw [hf 50 (by decide) (by decide)]; exact h46
      have fr : FrD4 h h1 := ⟨fun x x0 x1 x2 x3 => by rw [hf x x1 x2]; exact hF2.1 x x0 x1 x2 x3, fun q hq => by rw [hf 50 (by decide) (by decide)]; exact hF2.2 q hq⟩
      have f75 : ∀ i, i < wi w np → h1 75 i = (wp w np i : Int) := fun i hi => by rw [hf 75 (by decide) (by decide)]; exact h75 i hi
      refine hX 20 [] 281 _ _ _ _ _ _ ?_
      refine And.intro (fun c286 => ?_) (fun c286 => ?_)
      · have c286 : n ≠ h1 50 46 := c286
        rcases hor with y | y
        · exact absurd (y.1.trans f46.symm) c286
        · exact And.intro ⟨by decide, by decide⟩ ⟨rfl, fr, f46, f75, Or.inr ⟨rfl, y.2⟩⟩
      · have c286 : n = h1 50 46 := c286
        rcases hor with y | y
        · exact And.intro ⟨by decide, by decide⟩ ⟨rfl, fr, f46, f75, Or.inl ⟨rfl, y.2⟩⟩
        · exact absurd (c286.trans f46) y.1
    have core : ∀ (j n : Nat), n + j = wi w np → ∀ (d : Nat → Nat) (h1 : HP) (u : Int) (j5 j6 : PV), SrS h2 h1 st w np L d n u → (n < wi w np → h1 74 n = -1) → Vp (okC st c) (rmC st) q L most d n → LexLow (Vd st c w np L most) d n →
        (∀ (h' : HP) (u' : Int) (j5 j6 : PV), SrS h2 h' st w np L d n u' → (∀ e, Vd st c w np L most e → ¬ ∀ i, i < n → e i = d i) → X 113 [vR 50, vI c, vI most, vI ((n : Int) - 1), vI u', j5, j6] [] (LL M) h' 0 0) →
        X 113 [vR 50, vI c, vI most, vI (n : Int), vI u, j5, j6] [] (LL M) h1 0 0 := by
      intro j
      induction j with
      | zero =>
        intro n hn d h1 u j5 j6 hS h74 hVp hlex hfail
        have en : n = wi w np := by omega
        subst en
        have f46 : h1 50 46 = (wi w np : Int) := by rw [hS.1 50 (by decide) (by decide)]; exact h46
        refine hX 20 [281] 113 _ _ _ _ _ _ ?_
        refine And.intro (fun c114 => absurd c114 (by omega)) (fun c114 => ?_)
        refine And.intro (fun c122 => ?_) (fun c122 => absurd c122 (by omega))
        exact stop _ h1 u _ _ hS.1 (Or.inl ⟨rfl, d, (hV d).mpr hVp, hlex, hS.2.1⟩)
      | succ j ihj =>
        intro n hn d h1 u j5 j6 hS h74 hVp hlex hfail
        have hnm : n < wi w np := by omega
        have n6 : n < 6 := by omega
        have x := wp_at np n hnm
        have qn : q n = w (wp w np n) := by rw [hq]
        have at184 : ∀ (f b : Nat), L ≤ b + f → b ≤ 11 → ∀ (h1 : HP) (u j5 : Int) (j6 : PV), SrS h2 h1 st w np L d n u → h1 74 n = (b : Int) - 1 → (∀ e, Vd st c w np L most e → (∀ i, i < n → e i = d i) → b ≤ e n) →
            X 184 [vR 50, vI c, vI most, vI (n : Int), vI u, vI j5, j6] [] (LL M) h1 0 0 := by
          intro f
          induction f with
          | zero =>
            intro b hb hb11 h1 u j5 j6 hS hbn hne
            have dl := DlC_of hD2 (h' := h1) (hS.1 57 (by decide) (by decide)) (hS.1 72 (by decide) (by decide)) (by rw [hS.1 50 (by decide) (by decide)])
            have e75 : h1 75 n = (wp w np n : Int) := by rw [hS.1 75 (by decide) (by decide)]; exact h75 n hnm
            have ub := ctF_bd d n
            have uu := hS.2.2.2
            refine hX 20 [195] 184 _ _ _ _ _ _ ?_
            refine Ok_mono (fun o' Λ' h' hpost => ?_) (m_nextLot (M := M) (most := most) (u := u) dl n6 hbn hS.2.1 e75 x.1 (by omega) (by omega))
            obtain ⟨rfl, rfl, hor⟩ := hpost
            rcases hor with ⟨rfl, hno⟩ | ⟨l, l1, l2, -⟩
            · show X 195 [_, _, _, _, _, _, _] _ _ _ _ _
              refine hX 20 [113] 195 _ _ _ _ _ _ ?_
              refine And.intro (fun c198 => absurd rfl c198) (fun _ => ?_)
              refine And.intro ⟨by omega, by omega⟩ ?_
              refine hfail _ _ _ _ hS (fun e he hag => ?_)
              have a := hne e he hag
              have b2 := ((hV e).mp he).1 n hnm
              omega
            · omega
          | succ f ihf =>
            intro b hb hb11 h1 u j5 j6 hS hbn hne
            have dl := DlC_of hD2 (h' := h1) (hS.1 57 (by decide) (by decide)) (hS.1 72 (by decide) (by decide)) (by rw [hS.1 50 (by decide) (by decide)])
            have e75 : h1 75 n = (wp w np n : Int) := by rw [hS.1 75 (by decide) (by decide)]; exact h75 n hnm
            have ub := ctF_bd d n
            have uu := hS.2.2.2
            have e46 : h1 50 46 = (wi w np : Int) := by rw [hS.1 50 (by decide) (by decide)]; exact h46
            refine hX 20 [195] 184 _ _ _ _ _ _ ?_
            refine Ok_mono (fun o' Λ' h' hpost => ?_) (m_nextLot (M := M) (most := most) (u := u) dl n6 hbn hS.2.1 e75 x.1 (by omega) (by omega))
            obtain ⟨rfl, rfl, hor⟩ := hpost
            have toC : ∀ l, l < L → cand (okC st c) (rmC st) q L most d n l → nxP st c d n (h' 73) (w (wp w np n)) u most l := fun l hl hcand => ⟨hcand.2.1, by rw [hS.2.2.1 l hl, ← hq, ← qn]; have := hcand.2.2.1; omega, by rw [uu]; exact hcand.2.2.2⟩
            rcases hor with ⟨rfl, hno⟩ | ⟨l, l1, l2, lC, lno, rfl⟩
            · show X 195 [_, _, _, _, _, _, _] _ _ _ _ _
              refine hX 20 [113] 195 _ _ _ _ _ _ ?_
              refine And.intro (fun c198 => absurd rfl c198) (fun _ => ?_)
              refine And.intro ⟨by omega, by omega⟩ ?_
              refine hfail _ _ _ _ hS (fun e he hag => ?_)
              have he2 := (hV e).mp he
              rw [show wi w np = n + 1 + (wi w np - (n + 1)) by omega] at he2
              have cd := cand_of (Vp_less (fun i => (hq0 i).1) he2) hag
              exact hno (e n) (hne e he hag) cd.1 (toC _ cd.1 cd)
            · have ql := hS.2.2.1 l l2
              rw [← hq] at ql
              have ldb := ld_bd (q := q) (d := d) (n := n) (k := l) hq0
              have rml := rmb l l2
              have nb := nwF_bd d n l
              have lC2 : cand (okC st c) (rmC st) q L most d n l := ⟨l2, lC.1, by have := lC.2.1; rw [ql, ← qn] at this; omega, by have := lC.2.2; rw [uu] at this; exact this⟩
              have q0 := hq0 n
              have deeper : ∀ (h3 : HP) (u3 : Int) (j5 j6 : PV), SrS h2 h3 st w np L (setD d n l) (n + 1) u3 → (n + 1 < wi w np → h3 74 (n + 1) = -1) → X 113 [vR 50, vI c, vI most, vI ((n : Int) + 1), vI u3, j5, j6] [] (LL M) h3 0 0 := by
                intro h3 u3 j5 j6 hS3 h743
                have lex3 : LexLow (Vd st c w np L most) (setD d n l) (n + 1) := by
                  intro i hi e he hag
                  by_cases z : i = n
                  · subst z
                    rw [setD_at]
                    have hag2 : ∀ j, j < i → e j = d j := fun j hj => by rw [hag j hj, setD_lt hj]
                    have a := hne e he hag2
                    by_cases y : l ≤ e i
                    · exact y
                    · have he2 := (hV e).mp he
                      rw [show wi w np = i + 1 + (wi w np - (i + 1)) by omega] at he2
                      have cd := cand_of (Vp_less (fun i => (hq0 i).1) he2) hag2
                      exact absurd (toC _ cd.1 cd) (lno (e i) a (by omega))
                  · rw [setD_lt (by omega)]
                    exact hlex i (by omega) e he (fun j hj => by rw [hag j hj, setD_lt (by omega)])
                refine ihj (n + 1) (by omega) (setD d n l) h3 u3 j5 j6 hS3 h743 (Vp_next hVp lC2) lex3 (fun h4 u4 j5 j6 hS4 hnone => ?_)
                -- back at n with the lot l tried
                rw [show ((n + 1 : Nat) : Int) - 1 = (n : Int) by omega]
                obtain ⟨s1, s2, s3, s4⟩ := hS4
                have d74 : h4 74 n = (l : Int) := by have := s2 n (by omega); rw [setD_at] at this; exact this
                have g46 : h4 50 46 = (wi w np : Int) := by rw [s1 50 (by decide) (by decide)]; exact h46
                have g75 : h4 75 n = (wp w np n : Int) := by rw [s1 75 (by decide) (by decide)]; exact h75 n hnm
                have g72 : h4 72 (4 * (wp w np n : Int) + c).toNat = w (wp w np n) := by rw [s1 72 (by decide) (by decide)]; exact hD2.2.2.2.2.2 _ x.1
                have g73 := s3 l l2
                rw [← hq, ld_set, if_pos rfl] at g73
                have gu : u4 = ctF d n + nwF d n l := by rw [s4, ct_set]
                have dl4 : ∀ j, j < n → h4 74 j = (d j : Int) := fun j hj => by have := s2 j (by omega); rw [setD_lt hj] at this; exact this
                have t74 : h4 74 (n : Int).toNat = (l : Int) := by rw [Int.toNat_natCast]; exact d74
                have t75 : h4 75 (n : Int).toNat = (wp w np n : Int) := by rw [Int.toNat_natCast]; exact g75
                have t73 : h4 73 (l : Int).toNat = rmC st l - (ldF q d n l + q n) := by rw [Int.toNat_natCast]; exact g73
                have hS5 : SrS h2 (up h4 73 (l : Int).toNat (rmC st l - (ldF q d n l + q n) + w (wp w np n))) st w np L d n (ctF d n) := by
                  refine ⟨fun y y1 y2 => by rw [up_cell y1]; exact s1 y y1 y2, fun i hi => by rw [up_cell (by decide)]; exact dl4 i hi, fun k hk => ?_, rfl⟩
                  rw [Int.toNat_natCast, ← hq]
                  by_cases z : k = l
                  · subst z; rw [up_same]; omega
                  · rw [up_ne z, s3 k hk, ← hq, ld_set, if_neg (fun y => z y.symm)]; omega
                have go := fun (j5 : Int) (j6 : PV) => ihf (l + 1) (by omega) (by omega) _ (ctF d n) j5 j6 hS5 (by rw [up_cell (by decide), d74]; omega) (fun e he hag => by
                  have a := lex3 n (by omega) e he (fun j hj => by rw [hag j hj, setD_lt hj])
                  rw [setD_at] at a
                  by_cases y : e n = l
                  · exact absurd (fun i (hi : i < n + 1) => by
                      by_cases z : i = n
                      · rw [z, setD_at]; exact y
                      · rw [setD_lt (by omega)]; exact hag i (by omega)) (hnone e he)
                  · omega)
                have fin : ∀ (j6 : PV) (v : Int), v = ctF d n → X 182 [vR 50, vI c, vI most, vI (n : Int), vI u4, vI (l : Int), j6] [vI v] (LL M) (up h4 73 (l : Int).toNat (rmC st l - (ldF q d n l + q n) + w (wp w np n))) 0 0 := by
                  intro j6 v hv1
                  subst hv1
                  refine hX 10 [184] 182 _ _ _ _ _ _ ?_
                  exact go _ _
                refine hX 20 [133, 281] 113 _ _ _ _ _ _ ?_
                refine And.intro (fun c114 => absurd c114 (by omega)) (fun c114 => ?_)
                refine And.intro (fun c122 => absurd c122 (by omega)) (fun c122 => ?_)
                refine And.intro ⟨by omega, by omega⟩ ?_
                rw [t74]
                show X 133 [_, _, _, _, _, _, _] _ _ _ _ _
                refine hX 40 [164, 184] 133 _ _ _ _ _ _ ?_
                refine And.intro (fun c136 => absurd c136 (by omega)) (fun c136 => ?_)
                refine And.intro ⟨by omega, by omega⟩ ?_
                refine And.intro ⟨by omega, by omega⟩ ?_
                rw [t75, t73]
                refine And.intro ⟨by omega, by omega⟩ ?_
                refine And.intro ⟨by omega, by omega⟩ ?_
                refine And.intro ⟨by omega, by omega⟩ ?_
                rw [g72]
                refine And.intro ⟨by omega, by omega⟩ ?_
                refine And.intro ⟨by omega, by omega⟩ ?_
                refine hX 20 [182] 164 _ _ _ _ _ _ ?_
                refine Ok_rt (m_isUsed (d := d) (by omega) (fun j hj => by rw [up_cell (by decide)]; exact dl4 j hj)) ?_
                unfold nwF at gu nb
                refine And.intro (fun c173 => ?_) (fun c173 => ?_)
                · have c173 : (if anyB (fun j => d j == l) n = true then (1 : Int) else 0) = 0 := c173
                  refine And.intro ⟨by omega, by omega⟩ ?_
                  refine fin _ _ ?_
                  by_cases z : anyB (fun j => d j == l) n = true
                  · rw [if_pos z] at c173; exact absurd c173 (by decide)
                  · rw [if_neg z] at gu; omega
                · refine And.intro ⟨by omega, by omega⟩ ?_
                  refine fin _ _ ?_
                  by_cases z : anyB (fun j => d j == l) n = true
                  · rw [if_pos z] at gu; omega
                  · exact absurd (if_neg z) c173
              have t73 : h' 73 (l : Int).toNat = rmC st l - ldF q d n l := by rw [Int.toNat_natCast]; exact ql
              have t75 : h' 75 (n : Int).toNat = (wp w np n : Int) := by rw [Int.toNat_natCast]; exact e75
              have g72 : h' 72 (4 * (wp w np n : Int) + c).toNat = w (wp w np n) := by rw [hS.1 72 (by decide) (by decide)]; exact hD2.2.2.2.2.2 _ x.1
              obtain ⟨hB, hhB⟩ : ∃ hB : HP, hB = up (up h' 73 (l : Int).toNat (rmC st l - ldF q d n l - w (wp w np n))) 74 (n : Int).toNat (l : Int) := ⟨_, rfl⟩
              have hSB : ∀ (h3 : HP), (∀ y, y ≠ 74 → h3 y = hB y) → (∀ i, i < n + 1 → h3 74 i = hB 74 i) → SrS h2 h3 st w np L (setD d n l) (n + 1) (ctF d n + nwF d n l) := by
                intro h3 e3 e4
                refine ⟨fun y y1 y2 => ?_, fun i hi => ?_, fun k hk => ?_, by rw [ct_set]⟩
                · rw [e3 y y2, hhB, up_cell y2, up_cell y1]; exact hS.1 y y1 y2
                · rw [e4 i hi, hhB, Int.toNat_natCast, Int.toNat_natCast]
                  by_cases z : i = n
                  · subst z; rw [up_same, setD_at]
                  · rw [up_ne z, up_cell (by decide), setD_lt (by omega)]; exact hS.2.1 i (by omega)
                · rw [e3 73 (by decide), hhB, up_cell (by decide), Int.toNat_natCast, ← hq, ld_set]
                  by_cases z : k = l
                  · subst z; rw [up_same, if_pos rfl]; omega
                  · rw [up_ne z, hS.2.2.1 k hk, ← hq, if_neg (fun y => z y.symm)]; omega
              have at227 : ∀ (j5 : PV) (v : Int), v = ctF d n + nwF d n l → X 225 [vR 50, vI c, vI most, vI (n : Int), vI u, j5, vI (l : Int)] [vI v] (LL M) h' 0 0 := by
                intro j5 v hv1
                subst hv1
                refine hX 40 [227] 225 _ _ _ _ _ _ ?_
                show X 227 [_, _, _, _, _, _, _] _ _ _ _ _
                refine hX 60 [113, 263] 227 _ _ _ _ _ _ ?_
                refine And.intro ⟨by omega, by omega⟩ ?_
                refine And.intro ⟨by omega, by omega⟩ ?_
                rw [t75, t73]
                refine And.intro ⟨by omega, by omega⟩ ?_
                refine And.intro ⟨by omega, by omega⟩ ?_
                refine And.intro ⟨by omega, by omega⟩ ?_
                rw [g72]
                refine And.intro ⟨by omega, by omega⟩ ?_
                refine And.intro ⟨by omega, by omega⟩ ?_
                refine And.intro ⟨by omega, by omega⟩ ?_
                refine And.intro ⟨by omega, by omega⟩ ?_
                rw [← hhB]
                have e46B : hB 50 46 = (wi w np : Int) := by rw [hhB, up_cell (by decide), up_cell (by decide)]; exact e46
                show X 263 [_, _, _, _, _, _, _] _ _ _ _ _
                refine hX 20 [113] 263 _ _ _ _ _ _ ?_
                refine And.intro (fun c268 => ?_) (fun c268 => ?_)
                · exact deeper hB _ _ _ (hSB hB (fun _ _ => rfl) (fun _ _ => rfl)) (fun z => absurd c268 (by omega))
                · refine And.intro ⟨by omega, by omega⟩ ?_
                  have et : ((n : Int) + 1).toNat = n + 1 := by omega
                  rw [et]
                  exact deeper _ _ _ _ (hSB _ (fun y y1 => up_cell y1) (fun i hi => up_ne (by omega))) (fun z => up_same)
              show X 195 [_, _, _, _, _, _, _] _ _ _ _ _
              refine hX 20 [207] 195 _ _ _ _ _ _ ?_
              refine And.intro (fun _ => ?_) (fun c198 => absurd c198 (by omega))
              refine hX 20 [225] 207 _ _ _ _ _ _ ?_
              refine Ok_rt (m_isUsed (d := d) (by omega) hS.2.1) ?_
              unfold nwF at at227 nb
              refine And.intro (fun c216 => ?_) (fun c216 => ?_)
              · have c216 : (if anyB (fun j => d j == l) n = true then (1 : Int) else 0) = 0 := c216
                refine And.intro ⟨by omega, by omega⟩ ?_
                refine at227 _ _ ?_
                by_cases z : anyB (fun j => d j == l) n = true
                · rw [if_pos z] at c216; exact absurd c216 (by decide)
                · rw [if_neg z]; omega
              · refine And.intro ⟨by omega, by omega⟩ ?_
                refine at227 _ _ ?_
                by_cases z : anyB (fun j => d j == l) n = true
                · rw [if_pos z]; omega
                · exact absurd (if_neg z) c216
        have f46 : h1 50 46 = (wi w np : Int) := by rw [hS.1 50 (by decide) (by decide)]; exact h46
        have t74 : h1 74 (n : Int).toNat = -1 := by rw [Int.toNat_natCast]; exact h74 hnm
        refine hX 20 [133, 281] 113 _ _ _ _ _ _ ?_
        refine And.intro (fun c114 => absurd c114 (by omega)) (fun c114 => ?_)
        refine And.intro (fun c122 => absurd c122 (by omega)) (fun c122 => ?_)
        refine And.intro ⟨by omega, by omega⟩ ?_
        rw [t74]
        show X 133 [_, _, _, _, _, _, _] _ _ _ _ _
        refine hX 20 [184] 133 _ _ _ _ _ _ ?_
        refine And.intro (fun _ => ?_) (fun c136 => absurd rfl c136)
        exact at184 L 0 (by omega) (by omega) h1 u _ _ hS (by rw [h74 hnm]; rfl) (fun e _ _ => Nat.zero_le _)
    intro h1 j5 j6 hS h74
    have z := core (wi w np) 0 (by omega) (fun _ => 0) h1 0 j5 j6 hS (fun _ => h74) ⟨fun i hi => absurd hi (Nat.not_lt_zero _), fun i hi => absurd hi (Nat.not_lt_zero _), by show (0 : Int) ≤ most; exact hm.1⟩ (fun i hi => absurd hi (Nat.not_lt_zero _)) (fun h' u' j5 j6 hS' hnone => by
      refine hX 20 [281] 113 _ _ _ _ _ _ ?_
      refine And.intro (fun c114 => ?_) (fun c114 => absurd c114 (by omega))
      exact stop _ h' u' _ _ hS'.1 (Or.inr ⟨by omega, fun e he => hnone e he (fun i hi => absurd hi (Nat.not_lt_zero _))⟩))
    exact z
  -- the pieces that want the color
  have l2 : ∀ (m p : Nat) (h1 : HP) (j4 j5 j6 : PV), p + m = np → (∀ x, x ≠ 50 → x ≠ 73 → x ≠ 75 → h1 x = h x) → (∀ q, q ≠ 46 → h1 50 q = h 50 q) → (∀ k : Nat, k < L → h1 73 k = rmC st k) → h1 50 46 = (wi w p : Int) → (∀ i, i < wi w p → h1 75 i = (wp w np i : Int)) →
      X 49 [vR 50, vI c, vI most, vI (p : Int), j4, j5, j6] [] (LL M) h1 0 0 := by
    intro m
    induction m with
    | zero =>
      intro p h1 j4 j5 j6 hp g1 g2 g3 g4 g5
      have ep : p = np := by omega
      subst ep
      have e4 : h1 50 4 = (p : Int) := by rw [g2 4 (by decide)]; exact hnp
      have dl : DlC h1 st c w p L := DlC_of hD (g1 57 (by decide) (by decide) (by decide)) (g1 72 (by decide) (by decide) (by decide)) (g2 4 (by decide))
      refine hX 20 [103, 106] 49 _ _ _ _ _ _ ?_
      refine And.intro (fun c54 => ?_) (fun c54 => absurd c54 (by omega))
      show X 103 [_, _, _, _, _, _, _] _ _ _ _ _
      refine hX 20 [106] 103 _ _ _ _ _ _ ?_
      show X 106 [_, _, _, _, _, _, _] _ _ _ _ _
      refine hX 20 [113] 106 _ _ _ _ _ _ ?_
      refine And.intro ⟨by omega, by omega⟩ ?_
      refine srch h1 ⟨fun x x0 x1 x2 x3 => g1 x x0 x1 x3, g2⟩ g4 g5 dl _ _ _ ⟨fun x x1 x2 => up_cell x2, fun i hi => absurd hi (Nat.not_lt_zero _), fun k hk => ?_, rfl⟩ up_same
      rw [up_cell (by decide), g3 k hk]
      show rmC st k = rmC st k - 0
      omega
    | succ m ih =>
      intro p h1 j4 j5 j6 hp g1 g2 g3 g4 g5
      have e4 : h1 50 4 = (np : Int) := by rw [g2 4 (by decide)]; exact hnp
      have e72 : h1 72 (4 * (p : Int) + c).toNat = w p := by rw [g1 72 (by decide) (by decide) (by decide)]; exact hwn p (by omega)
      have wl := wi_le w p
      refine hX 40 [85, 95] 49 _ _ _ _ _ _ ?_
      refine And.intro (fun c54 => absurd c54 (by omega)) (fun c54 => ?_)
      refine And.intro ⟨by omega, by omega⟩ ?_
      refine And.intro ⟨by omega, by omega⟩ ?_
      refine And.intro ⟨by omega, by omega⟩ ?_
      rw [e72]
      refine And.intro (fun c69 => ?_) (fun c69 => ?_)
      · have e : wi w (p + 1) = wi w p + 1 := if_neg c69
        refine And.intro ⟨by omega, by omega⟩ ?_
        obtain ⟨hA, hhA⟩ : ∃ hA : HP, hA = up h1 75 (h1 50 46).toNat (p : Int) := ⟨_, rfl⟩
        rw [← hhA]
        have a46 : hA 50 46 = (wi w p : Int) := by rw [hhA, up_cell (by decide)]; exact g4
        refine hX 20 [49] 85 _ _ _ _ _ _ ?_
        refine And.intro ⟨by omega, by omega⟩ ?_
        refine And.intro ⟨by omega, by omega⟩ ?_
        refine ih (p + 1) _ _ _ _ (by omega) (fun x x0 x1 x2 => ?_) (fun q hq => ?_) (fun k hk => ?_) ?_ (fun i hi => ?_)
        · rw [up_cell x0, hhA, up_cell x2]; exact g1 x x0 x1 x2
        · rw [up_ne hq, hhA, up_cell (by decide)]; exact g2 q hq
        · rw [up_cell (by decide), hhA, up_cell (by decide)]; exact g3 k hk
        · rw [up_same, a46, e]; rfl
        · rw [up_cell (by decide), hhA, g4, Int.toNat_natCast]
          by_cases z : i = wi w p
          · subst z; rw [up_same, wp_wi c69 np (by omega)]
          · rw [up_ne z]; exact g5 i (by omega)
      · have e : wi w (p + 1) = wi w p := if_pos c69
        refine hX 20 [49] 95 _ _ _ _ _ _ ?_
        refine And.intro ⟨by omega, by omega⟩ ?_
        exact ih (p + 1) h1 _ _ _ (by omega) g1 g2 g3 (by rw [e]; exact g4) (fun i hi => g5 i (by omega))
  -- the meters that there are
  have l1 : ∀ (m k : Nat) (h1 : HP) (j4 j5 j6 : PV), k + m = L → (∀ x, x ≠ 73 → h1 x = h x) → (∀ j : Nat, j < k → h1 73 j = rmC st j) → X 2 [vR 50, vI c, vI most, vI (k : Int), j4, j5, j6] [] (LL M) h1 0 0 := by
    intro m
    induction m with
    | zero =>
      intro k h1 j4 j5 j6 hk g1 g2
      have ek : k = L := by omega
      subst ek
      have e3 : h1 57 (3 : Int).toNat = (k : Int) := by rw [g1 57 (by decide)]; exact hL
      refine hX 20 [49] 2 _ _ _ _ _ _ ?_
      refine And.intro ⟨by omega, by omega⟩ ?_
      rw [e3]
      refine And.intro (fun c9 => ?_) (fun c9 => absurd c9 (by omega))
      refine l2 np 0 _ _ _ _ (by omega) (fun x x0 x1 x2 => by rw [up_cell x0]; exact g1 x x1) (fun q hq => by rw [up_ne hq, g1 50 (by decide)]) (fun j hj => by rw [up_cell (by decide)]; exact g2 j hj) up_same (fun i hi => absurd hi (Nat.not_lt_zero _))
    | succ m ih =>
      intro k h1 j4 j5 j6 hk g1 g2
      have lo := hlot k (by omega)
      have e3 : h1 57 (3 : Int).toNat = (L : Int) := by rw [g1 57 (by decide)]; exact hL
      have e57 : h1 57 (112 + 2 * (k : Int) + 1).toNat = rd st 132 (14 + (k : Int)) := by rw [g1 57 (by decide), show (112 + 2 * (k : Int) + 1).toNat = 112 + 2 * k + 1 by omega]; exact lo.2.1
      refine hX 40 [2] 2 _ _ _ _ _ _ ?_
      refine And.intro ⟨by omega, by omega⟩ ?_
      rw [e3]
      refine And.intro (fun c9 => absurd c9 (by omega)) (fun c9 => ?_)
      refine And.intro ⟨by omega, by omega⟩ ?_
      refine And.intro ⟨by omega, by omega⟩ ?_
      refine And.intro ⟨by omega, by omega⟩ ?_
      refine And.intro ⟨by omega, by omega⟩ ?_
      rw [e57]
      refine And.intro ⟨by omega, by omega⟩ ?_
      refine And.intro ⟨by omega, by omega⟩ ?_
      refine And.intro ⟨by omega, by omega⟩ ?_
      refine ih (k + 1) _ _ _ _ (by omega) (fun x x1 => by rw [up_cell x1]; exact g1 x x1) (fun j hj => ?_)
      rw [Int.toNat_natCast]
      by_cases z : j = k
      · subst z; rw [up_same]; rfl
      · rw [up_ne z]; exact g2 j (by omega)
  refine hX 10 [2] 0 _ _ _ _ _ _ ?_
  exact l1 L 0 h _ _ _ (by omega) (fun _ _ => rfl) (fun j hj => absurd hj (Nat.not_lt_zero _))
end MDEALS
