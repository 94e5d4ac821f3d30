/-! ===== the model: dealt, lotsUsed, possible ===== -/
def wC (h : HP) (s : Int) (n : Nat) (c : Int) (p : Nat) : Int := if p < n then nCol h s p c else 0
def lotN (h : HP) : Nat := (rd (h 28) 132 3).toNat
/-- the class's best dealing of a color, by the needs -/
def bB (h : HP) (s : Int) (n : Nat) (c : Int) : Int := bC (h 28) (wC h s n c) c n (lotN h)
theorem bD_w {h : HP} {s c : Int} {n : Nat} {nd : Nat → Int} (hN : NdOK h s n nd) (hc : 0 ≤ c ∧ c ≤ 3) : bD nd (h 28) n c = bB h s n c := by
  have e : ∀ q, q < n → wN nd c q = wC h s n c q := fun q hq => by
    have := hN q c.toNat hq (by omega)
    rw [show ((c.toNat : Nat) : Int) = c by omega] at this
    unfold wC
    rw [if_pos hq, this]
  unfold bD bB bC lotN
  rw [NM_congr n e, show SN (wN nd c) n = SN (wC h s n c) n from funext (fun s => SN_congr n e s)]
theorem DlC_all {h h1 : HP} {s c : Int} {n : Nat} (hC : CI h) (hM : Cpl h) (hs : isSz h s) (hn : rd (h 21) 4 3 = (n : Int)) (e57 : h1 57 = h 57) (e50 : h1 50 4 = h 50 4) (hnd : ∀ q c : Nat, q < n → c < 4 → h1 72 (4 * q + c) = nCol h s q c) (hc : 0 ≤ c ∧ c ≤ 3) : DlC h1 (h 28) c (wC h s n c) n (lotN h) := by
  have S := hM.2.2.2
  have l3 := hC.2.2.2.2.1
  have n6 := hC.1.2.2.2.1
  have eL : h 57 3 = rd (h 28) 132 3 := by have e := S.1.2.2.2; rw [rd_in (by decide) (by decide)] at e; exact e
  refine ⟨⟨by rw [e57, eL]; unfold lotN; omega, by unfold lotN; omega⟩, fun k hk => ?_, ⟨by rw [e50, hM.1.2.2.2]; exact hn, by omega⟩, hc, fun p => ?_, fun p hp => ?_⟩
  · unfold lotN at hk
    have x := S.2.2.2 (k : Int) (by omega) (by omega)
    have m := hC.2.2.2.2.2.2.1 (14 + (k : Int)) (by omega) (by omega)
    rw [rd_in (by omega) (by omega), rd_in (show 0 ≤ 112 + 2 * (k : Int) + 1 by omega) (by omega)] at x
    rw [e57]
    rw [show (112 + 2 * (k : Int)).toNat = 112 + 2 * k by omega, show (112 + 2 * (k : Int) + 1).toNat = 112 + 2 * k + 1 by omega] at x
    exact ⟨x.1, x.2, m⟩
  · unfold wC
    split
    · next z => exact nCol_pos hC hs ⟨by omega, by omega⟩
    · omega
  · have := hnd p c.toNat hp (by omega)
    unfold wC
    rw [if_pos hp, show (4 * (p : Int) + c).toNat = 4 * p + c.toNat by omega, this, show ((c.toNat : Nat) : Int) = c by omega]
def lB (B : Nat → Int) : Nat → Nat → Int → Int
  | 0, _, a => a
  | m + 1, c, a => if B c = NOD then -1 else lB B m (c + 1) (a + B c / 16777216)
theorem lB_iff {B : Nat → Int} (hB : ∀ c, B c = NOD ∨ 0 ≤ B c) : ∀ (m c : Nat) (a : Int), 0 ≤ a → (lB B m c a ≠ -1 ↔ ∀ c', c ≤ c' → c' < c + m → B c' ≠ NOD)
  | 0, c, a, ha => by unfold lB; exact ⟨fun _ c' h1 h2 => by omega, fun _ => by omega⟩
  | m + 1, c, a, ha => by
    unfold lB
    by_cases z : B c = NOD
    · rw [if_pos z]
      exact ⟨fun y => absurd rfl y, fun y => absurd z (y c (by omega) (by omega))⟩
    · rw [if_neg z]
      have b : 0 ≤ B c / 16777216 := by
        rcases hB c with y | y
        · exact absurd y z
        · omega
      rw [lB_iff hB m (c + 1) _ (by omega)]
      constructor
      · intro y c' h1 h2
        by_cases e : c' = c
        · rw [e]; exact z
        · exact y c' (by omega) (by omega)
      · exact fun y c' h1 h2 => y c' (by omega) (by omega)
theorem bB_bd {h : HP} {s : Int} {n : Nat} (hC : CI h) (hn6 : n ≤ 6) (c : Int) : bB h s n c = NOD ∨ (0 ≤ bB h s n c ∧ bB h s n c ≤ 270000000) := by
  have h2 := NM_lt (wC h s n c) n
  have h64 := two_pow_le6 hn6
  have l := hC.2.2.2.2.1
  have := CL_bd (st := h 28) (col := c) (sn := SN (wC h s n c) n) (sp := SN pw n) (nd := NM (wC h s n c) n) (sp_bd hn6) (by omega) (lotN h) (by unfold lotN; omega) (NM (wC h s n c) n) (by omega)
  unfold bB bC
  have l10 : lotN h ≤ 10 := by unfold lotN; omega
  rcases this with z | z
  · left; exact z
  · right; omega
theorem lAF_B {h : HP} {s : Int} {n : Nat} {nd : Nat → Int} (hC : CI h) (hn6 : n ≤ 6) (hN : NdOK h s n nd) : ∀ (m c : Nat) (a : Int), c + m ≤ 4 → lAF nd (h 28) n m c a = lB (fun c => bB h s n c) m c a
  | 0, _, _, _ => rfl
  | m + 1, c, a, hc => by
    have e := bD_w hN (c := (c : Int)) (by omega)
    unfold lAF lB
    rw [e]
    by_cases z : bB h s n c = NOD
    · rw [if_pos z, if_pos z]
    · rw [if_neg z, if_neg z]
      have b : 0 ≤ bB h s n c ∧ bB h s n c ≤ 270000000 := by
        rcases bB_bd (s := s) hC hn6 (c : Int) with y | y
        · exact absurd y z
        · exact y
      rw [(ishr_bd (bB h s n c) b.1 (by omega)).2.2]
      exact lAF_B hC hn6 hN m (c + 1) _ (by omega)
theorem nd_ex (h : HP) (s : Int) (n : Nat) (hn6 : n ≤ 6) : ∃ nd, NdOK h s n nd := by
  refine ⟨fun i => nCol h s ((i / 4 : Nat) : Int) ((i % 4 : Nat) : Int), fun q c hq hc => ?_⟩
  unfold wN
  rw [rd_in (by omega) (by omega), show ((q : Int) * 4 + (c : Int)).toNat = 4 * q + c by omega, show (4 * q + c) / 4 = q by omega, show (4 * q + c) % 4 = c by omega]
/-- a size that can be knitted -/
def canM (h : HP) (n : Nat) (s : Nat) : Prop := allK h s n ∧ ∀ c : Nat, c < 4 → bB h s n c ≠ NOD
theorem canK_M {h : HP} {n s : Nat} (hC : CI h) (hn6 : n ≤ 6) : canK h n s ↔ canM h n s := by
  have hB : ∀ c : Nat, bB h s n c = NOD ∨ 0 ≤ bB h s n c := fun c => by
    rcases bB_bd (s := s) hC hn6 (c : Int) with y | y
    · exact Or.inl y
    · exact Or.inr y.1
  have key := lB_iff (B := fun c => bB h s n c) hB 4 0 0 (by omega)
  constructor
  · rintro ⟨a, b⟩
    obtain ⟨nd, hnd⟩ := nd_ex h s n hn6
    have x := b nd hnd
    rw [lAF_B hC hn6 hnd 4 0 0 (by omega)] at x
    exact ⟨a, fun c hc => key.mp x c (by omega) (by omega)⟩
  · rintro ⟨a, b⟩
    refine ⟨a, fun nd hnd => ?_⟩
    rw [lAF_B hC hn6 hnd 4 0 0 (by omega)]
    exact key.mpr (fun c _ hc => b c (by omega))
theorem ior_0 {a : Int} (h : inR a) : iorI a 0 = a := by
  unfold iorI
  rw [i_zero, Int32.or_zero, i_to h]
theorem ior_in (a b : Int) : inR (iorI a b) := i_rng _
theorem orF_congr {R R' : Nat → Prop} (h : ∀ t, R t ↔ R' t) : ∀ (m t : Nat) (a r : Int), orF R m t a r → orF R' m t a r
  | 0, _, _, _, x => x
  | m + 1, t, a, r, x => by
    unfold orF at *
    rcases x with x | x
    · exact Or.inl ⟨(h t).mp x.1, orF_congr h m _ _ _ x.2⟩
    · exact Or.inr ⟨fun y => x.1 ((h t).mpr y), orF_congr h m _ _ _ x.2⟩
theorem orF_fun {R : Nat → Prop} : ∀ (m t : Nat) (a r r' : Int), orF R m t a r → orF R m t a r' → r = r'
  | 0, _, _, _, _, x, y => by unfold orF at *; rw [x, y]
  | m + 1, t, a, r, r', x, y => by
    unfold orF at *
    rcases x with x | x <;> rcases y with y | y
    · exact orF_fun m _ _ _ _ x.2 y.2
    · exact absurd x.1 y.1
    · exact absurd y.1 x.1
    · exact orF_fun m _ _ _ _ x.2 y.2
theorem FrM_A {h h' : HP} (f : FrA (up h 50 0 0) h') : FrM h h' := ⟨fun c c1 c2 => by rw [f.1 c c1 (by omega) (by omega) (by omega) (by omega), up_cell c1], fun q q0 q1 q2 q3 _ => by rw [f.2 q q1 q2 q3, up_ne q0]⟩
theorem FrM_D {h h' : HP} (f : FrD4 h h') : FrM h h' := ⟨fun c c1 c2 => f.1 c c1 (by omega) (by omega) (by omega), fun q _ _ _ _ q4 => f.2 q q4⟩
section MLOTS
variable {M : List CT} {h : HP} {s p c x : Int} {n : Nat}
theorem m_knitsAll0 (hC : CI h) (hM : Cpl h) (hs : isSz h s) (hn : rd (h 21) 4 3 = (n : Int)) :
    Ok 250 [vR 50, vI s] (LL M) (up h 50 0 0) (fun o Λ' h' => Λ' = LL M ∧ FrM h h' ∧ h' 50 0 = 0 ∧ (∃ x, o = .inl (some (vI x)) ∧ bI x (allK h s n)) ∧ ∀ q c : Nat, q < n → c < 4 → h' 72 (4 * q + c) = nCol h s q c) := by
  refine Ok_mono (fun o' Λ' h' hpost => ?_) (m_knitsAll (M := M) (h := up h 50 0 0) (CI_0 (j := 0) (v := 0) hC) (Cpl_0 (v := 0) hM) (isSz_0.mpr hs) (n := n) (by rw [up_cell (by decide)]; exact hn))
  obtain ⟨rfl, f, ⟨x, rfl, hb⟩, hnd⟩ := hpost
  have eA : allK (up h 50 0 0) s n ↔ allK h s n := by unfold allK; simp only [gD_0, gN_0]
  refine ⟨rfl, FrM_A f, by rw [f.2 0 (by decide) (by decide) (by decide), up_same], ⟨x, rfl, ?_⟩, fun q c a b => ?_⟩
  · rcases hb with ⟨a, b⟩ | ⟨a, b⟩
    · exact Or.inl ⟨eA.mp a, b⟩
    · exact Or.inr ⟨fun y => a (eA.mpr y), b⟩
  · rw [hnd q c a b]
    unfold nCol
    rw [gD_0, gN_0, up_cell (by decide)]
theorem m_dealt (hC : CI h) (hM : Cpl h) (hs : isSz h s) (hp : isPc h p) (hc : 0 ≤ c ∧ c ≤ 3) (hn : rd (h 21) 4 3 = (n : Int)) :
    Ok 255 [vR 50, vI s, vI p, vI c] (LL M) h (fun o Λ' h' => Λ' = LL M ∧ FrM h h' ∧ ((¬ allK h s n ∧ o = .inl (some (vI 0)) ∧ h' 50 0 = 3) ∨ (allK h s n ∧ ((bB h s n c = NOD ∧ o = .inl (some (vI 0)) ∧ h' 50 0 = 4) ∨
      (bB h s n c ≠ NOD ∧ h' 50 0 = 0 ∧ o = .inl (some (vI (if 0 < wC h s n c p.toNat then bB h s n c / 16 ^ (5 - p.toNat) % 16 else -1)))))))) := by
  have C0 := CI_0 (j := 0) (v := 0) hC
  have M0 := Cpl_0 (v := 0) hM
  have n6 : n ≤ 6 := by have := hC.1.2.2.2.1; omega
  have pn : p.toNat < n := by have := hp.1; have := hp.2; omega
  refine ok_body B_X9_dealt rfl (fun X hX => ?_)
  refine hX 60 [27] 0 _ _ _ _ _ _ ?_
  refine Ok_mono (fun o' Λ' h' hpost => ?_) (m_isSize (M := M) (i := s) C0 M0)
  obtain ⟨rfl, rfl, x, rfl, hb⟩ := hpost
  rcases hb with ⟨-, rfl⟩ | ⟨hb, -⟩
  case inr => exact absurd (isSz_0.mpr hs) hb
  refine And.intro (fun c => absurd c (by decide)) (fun _ => ?_)
  refine Ok_mono (fun o' Λ' h' hpost => ?_) (m_isPiece (M := M) (i := p) C0 M0)
  obtain ⟨rfl, rfl, x, rfl, hb⟩ := hpost
  rcases hb with ⟨-, rfl⟩ | ⟨hb, -⟩
  case inr => exact absurd (isPc_0.mpr hp) hb
  refine And.intro (fun c => absurd c (by decide)) (fun _ => ?_)
  refine hX 60 [61] 27 _ _ _ _ _ _ ?_
  refine Ok_rt (mayT (by decide) up_same) ?_
  refine And.intro (fun c => absurd c (by decide)) (fun _ => ?_)
  refine Ok_mono (fun o' Λ' h' hpost => ?_) (m_isColor (M := M) (i := c))
  obtain ⟨rfl, rfl, x, rfl, hb⟩ := hpost
  rcases hb with ⟨-, rfl⟩ | ⟨hb, -⟩
  case inr => exact absurd hc hb
  refine Ok_rt (mayT (by decide) up_same) ?_
  refine And.intro (fun c => absurd c (by decide)) (fun _ => ?_)
  refine Ok_mono (fun o' Λ' h1 hpost => ?_) (m_knitsAll0 (M := M) hC hM hs hn)
  obtain ⟨rfl, f, e0, ⟨x, rfl, hb⟩, hnd⟩ := hpost
  rcases hb with ⟨hall, rfl⟩ | ⟨hall, rfl⟩
  · refine Ok_rt (mayT (by decide) e0) ?_
    refine And.intro (fun _ => ?_) (fun c => absurd c (by decide))
    have dl := DlC_all (c := c) hC hM hs hn (f.1 57 (by decide) (by decide)) (f.2 4 (by decide) (by decide) (by decide) (by decide) (by decide)) hnd hc
    refine hX 60 [76] 61 _ _ _ _ _ _ ?_
    refine Ok_mono (fun o' Λ' h2 hpost => ?_) (m_dealsOf (M := M) dl)
    obtain ⟨rfl, f2, hor⟩ := hpost
    have f3 : FrM h h2 := FrM_tr f (FrM_D f2)
    have e02 : h2 50 0 = 0 := by rw [f2.2 0 (by decide)]; exact e0
    rcases hor with ⟨rfl, hB⟩ | ⟨most, d, hmb, rfl, hB, hB1, hB2, h46, hdl⟩
    · refine And.intro (fun _ => ?_) (fun c => absurd rfl c)
      refine hX 60 [85] 76 _ _ _ _ _ _ ?_
      refine Ok_rt (mayF (by decide) e02) ?_
      refine And.intro (fun c => absurd rfl c) (fun _ => ?_)
      exact ⟨rfl, FrM_tr f3 FrM_0, Or.inr ⟨hall, Or.inl ⟨hB, rfl, up_same⟩⟩⟩
    · refine And.intro (fun c => absurd c (by omega)) (fun _ => ?_)
      refine hX 60 [85] 76 _ _ _ _ _ _ ?_
      refine Ok_rt (mayT (by decide) e02) ?_
      refine And.intro (fun _ => ?_) (fun c => absurd c (by decide))
      have wl := wi_le (wC h s n c) n
      have loop : ∀ (m q : Nat), q + m = wi (wC h s n c) n → (∀ i, i < q → wp (wC h s n c) n i ≠ p.toNat) → X 88 [vR 50, vI s, vI p, vI c, vI (q : Int)] [] (LL M) h2 0 0 := by
        intro m
        induction m with
        | zero =>
          intro q hq hno
          refine hX 20 [] 88 _ _ _ _ _ _ ?_
          refine And.intro (fun c94 => ?_) (fun c94 => absurd c94 (by omega))
          refine ⟨rfl, f3, Or.inr ⟨hall, Or.inr ⟨hB, e02, ?_⟩⟩⟩
          have w0 : ¬ 0 < wC h s n c p.toNat := fun z => by
            have lt := wi_lt (w := wC h s n c) pn (by omega)
            exact hno (wi (wC h s n c) p.toNat) (by omega) (wp_wi (by omega) n pn)
          rw [if_neg w0]
        | succ m ih =>
          intro q hq hno
          have dq := hdl q (by omega)
          have x := wp_at n q (show q < wi (wC h s n c) n by omega)
          have t75 : h2 75 (q : Int).toNat = (wp (wC h s n c) n q : Int) := by rw [Int.toNat_natCast]; exact dq.1
          have t74 : h2 74 (q : Int).toNat = (d q : Int) := by rw [Int.toNat_natCast]; exact dq.2
          refine hX 40 [88] 88 _ _ _ _ _ _ ?_
          refine And.intro (fun c94 => absurd c94 (by omega)) (fun c94 => ?_)
          refine And.intro ⟨by omega, by omega⟩ ?_
          rw [t75]
          refine And.intro (fun c105 => ?_) (fun c105 => ?_)
          · refine And.intro ⟨by omega, by omega⟩ ?_
            refine ih (q + 1) (by omega) (fun i hi => ?_)
            by_cases z : i = q
            · rw [z]
              intro y
              have := hp.1
              have c105 : ((wp (wC h s n c) n q : Nat) : Int) ≠ p := c105
              omega
            · exact hno i (by omega)
          · have c105 : ((wp (wC h s n c) n q : Nat) : Int) = p := c105
            have ep : wp (wC h s n c) n q = p.toNat := by omega
            refine And.intro ⟨by omega, by omega⟩ ?_
            rw [t74]
            refine ⟨rfl, f3, Or.inr ⟨hall, Or.inr ⟨hB, e02, ?_⟩⟩⟩
            have wpos := (dl.2.2.2.2.1 p.toNat).1
            have x2 := x.2.1
            rw [ep] at x2
            have b2 := hB2 p.toNat pn (by omega)
            have x3 := x.2.2
            rw [ep] at x3
            rw [x3] at b2
            rw [if_pos (by omega)]
            rw [← b2]
            rfl
      refine hX 20 [88] 85 _ _ _ _ _ _ ?_
      exact loop (wi (wC h s n c) n) 0 (by omega) (fun i hi => absurd hi (Nat.not_lt_zero _))
  · refine Ok_rt (mayF (by decide) e0) ?_
    refine And.intro (fun c => absurd rfl c) (fun _ => ?_)
    exact ⟨rfl, FrM_tr f FrM_0, Or.inl ⟨hall, rfl, up_same⟩⟩
theorem m_dealt_x (hC : CI h) (hM : Cpl h) (hx : ¬ (isSz h s ∧ isPc h p)) : Ok 255 [vR 50, vI s, vI p, vI c] (LL M) h (thP M h 0 1) := by
  have C0 := CI_0 (j := 0) (v := 0) hC
  have M0 := Cpl_0 (v := 0) hM
  have fin : ∀ h', h' = up (up h 50 0 0) 50 0 1 → FrM h h' ∧ h' 50 0 = 1 := fun h' e => by rw [e, up_up]; exact ⟨FrM_0, up_same⟩
  refine ok_body B_X9_dealt rfl (fun X hX => ?_)
  have bad : X 27 [vR 50, vI s, vI p, vI c, vU] [vI 0, vR 50] (LL M) (up h 50 0 0) 0 0 := by
    refine hX 60 [61] 27 _ _ _ _ _ _ ?_
    refine Ok_rt (mayF (by decide) up_same) ?_
    refine And.intro (fun _ => ?_) (fun c => absurd rfl c)
    exact ⟨rfl, rfl, fin _ rfl⟩
  refine hX 60 [27] 0 _ _ _ _ _ _ ?_
  refine Ok_mono (fun o' Λ' h' hpost => ?_) (m_isSize (M := M) (i := s) C0 M0)
  obtain ⟨rfl, rfl, x, rfl, hb⟩ := hpost
  rcases hb with ⟨h1, rfl⟩ | ⟨-, rfl⟩
  · refine And.intro (fun c => absurd c (by decide)) (fun _ => ?_)
    refine Ok_mono (fun o' Λ' h' hpost => ?_) (m_isPiece (M := M) (i := p) C0 M0)
    obtain ⟨rfl, rfl, x, rfl, hb⟩ := hpost
    rcases hb with ⟨h2, rfl⟩ | ⟨-, rfl⟩
    · exact absurd ⟨isSz_0.mp h1, isPc_0.mp h2⟩ hx
    · exact And.intro (fun _ => bad) (fun c => absurd rfl c)
  · exact And.intro (fun _ => bad) (fun c => absurd rfl c)
theorem m_dealt_c (hC : CI h) (hM : Cpl h) (hs : isSz h s) (hp : isPc h p) (hc : ¬ (0 ≤ c ∧ c ≤ 3)) : Ok 255 [vR 50, vI s, vI p, vI c] (LL M) h (thP M h 0 2) := by
  have C0 := CI_0 (j := 0) (v := 0) hC
  have M0 := Cpl_0 (v := 0) hM
  have fin : ∀ h', h' = up (up h 50 0 0) 50 0 2 → FrM h h' ∧ h' 50 0 = 2 := fun h' e => by rw [e, up_up]; exact ⟨FrM_0, up_same⟩
  refine ok_body B_X9_dealt rfl (fun X hX => ?_)
  refine hX 60 [27] 0 _ _ _ _ _ _ ?_
  refine Ok_mono (fun o' Λ' h' hpost => ?_) (m_isSize (M := M) (i := s) C0 M0)
  obtain ⟨rfl, rfl, x, rfl, hb⟩ := hpost
  rcases hb with ⟨-, rfl⟩ | ⟨hb, -⟩
  case inr => exact absurd (isSz_0.mpr hs) hb
  refine And.intro (fun c => absurd c (by decide)) (fun _ => ?_)
  refine Ok_mono (fun o' Λ' h' hpost => ?_) (m_isPiece (M := M) (i := p) C0 M0)
  obtain ⟨rfl, rfl, x, rfl, hb⟩ := hpost
  rcases hb with ⟨-, rfl⟩ | ⟨hb, -⟩
  case inr => exact absurd (isPc_0.mpr hp) hb
  refine And.intro (fun c => absurd c (by decide)) (fun _ => ?_)
  refine hX 60 [61] 27 _ _ _ _ _ _ ?_
  refine Ok_rt (mayT (by decide) up_same) ?_
  refine And.intro (fun c => absurd c (by decide)) (fun _ => ?_)
  refine Ok_mono (fun o' Λ' h' hpost => ?_) (m_isColor (M := M) (i := c))
  obtain ⟨rfl, rfl, x, rfl, hb⟩ := hpost
  rcases hb with ⟨hb, -⟩ | ⟨-, rfl⟩
  · exact absurd hb hc
  · refine Ok_rt (mayF (by decide) up_same) ?_
    refine And.intro (fun _ => ?_) (fun c => absurd rfl c)
    exact ⟨rfl, rfl, fin _ rfl⟩
theorem m_lotsUsed (hC : CI h) (hM : Cpl h) (hs : isSz h s) (hn : rd (h 21) 4 3 = (n : Int)) :
    Ok 256 [vR 50, vI s] (LL M) h (fun o Λ' h' => Λ' = LL M ∧ FrM h h' ∧ ((¬ allK h s n ∧ o = .inl (some (vI 0)) ∧ h' 50 0 = 2) ∨ (allK h s n ∧ ((lB (fun c => bB h s n c) 4 0 0 = -1 ∧ o = .inl (some (vI 0)) ∧ h' 50 0 = 3) ∨
      (lB (fun c => bB h s n c) 4 0 0 ≠ -1 ∧ h' 50 0 = 0 ∧ o = .inl (some (vI (lB (fun c => bB h s n c) 4 0 0)))))))) := by
  have C0 := CI_0 (j := 0) (v := 0) hC
  have M0 := Cpl_0 (v := 0) hM
  have n6 : n ≤ 6 := by have := hC.1.2.2.2.1; omega
  refine ok_body B_X9_lotsUsed rfl (fun X hX => ?_)
  refine hX 60 [33] 0 _ _ _ _ _ _ ?_
  refine Ok_mono (fun o' Λ' h' hpost => ?_) (m_isSize (M := M) (i := s) C0 M0)
  obtain ⟨rfl, rfl, x, rfl, hb⟩ := hpost
  rcases hb with ⟨-, rfl⟩ | ⟨hb, -⟩
  case inr => exact absurd (isSz_0.mpr hs) hb
  refine Ok_rt (mayT (by decide) up_same) ?_
  refine And.intro (fun c => absurd c (by decide)) (fun _ => ?_)
  refine Ok_mono (fun o' Λ' h1 hpost => ?_) (m_knitsAll0 (M := M) hC hM hs hn)
  obtain ⟨rfl, f, e0, ⟨x, rfl, hb⟩, hnd⟩ := hpost
  rcases hb with ⟨hall, rfl⟩ | ⟨hall, rfl⟩
  · refine Ok_rt (mayT (by decide) e0) ?_
    refine And.intro (fun _ => ?_) (fun c => absurd c (by decide))
    have loop : ∀ (m c : Nat) (a : Int) (h2 : HP) (j4 : PV), c + m = 4 → 0 ≤ a → a ≤ 6 * (c : Int) → FrM h h2 → h2 50 0 = 0 → (∀ q c : Nat, q < n → c < 4 → h2 72 (4 * q + c) = nCol h s q c) → lB (fun c => bB h s n c) 4 0 0 = lB (fun c => bB h s n c) m c a →
        X 37 [vR 50, vI s, vI a, vI (c : Int), j4] [] (LL M) h2 0 0 := by
      intro m
      induction m with
      | zero =>
        intro c a h2 j4 hc ha1 ha2 f2 e02 hnd2 hl
        have hl2 : lB (fun c => bB h s n c) 4 0 0 = a := hl
        refine hX 20 [] 37 _ _ _ _ _ _ ?_
        refine And.intro (fun _ => ?_) (fun c39 => absurd c39 (by omega))
        exact ⟨rfl, f2, Or.inr ⟨hall, Or.inr ⟨by omega, e02, by rw [hl2]⟩⟩⟩
      | succ m ih =>
        intro c a h2 j4 hc ha1 ha2 f2 e02 hnd2 hl
        have dl := DlC_all (c := (c : Int)) hC hM hs hn (f2.1 57 (by decide) (by decide)) (f2.2 4 (by decide) (by decide) (by decide) (by decide) (by decide)) hnd2 (by omega)
        refine hX 20 [49] 37 _ _ _ _ _ _ ?_
        refine And.intro (fun c39 => absurd c39 (by omega)) (fun c39 => ?_)
        refine Ok_mono (fun o' Λ' h3 hpost => ?_) (m_dealsOf (M := M) dl)
        obtain ⟨rfl, f3, hor⟩ := hpost
        have f4 : FrM h h3 := FrM_tr f2 (FrM_D f3)
        have e03 : h3 50 0 = 0 := by rw [f3.2 0 (by decide)]; exact e02
        rcases hor with ⟨rfl, hB⟩ | ⟨most, d, hmb, rfl, hB, hB1, hB2, h46, hdl⟩
        · have hB' : bB h s n c = NOD := hB
          show X 49 [_, _, _, _, _] _ _ _ _ _
          refine hX 30 [] 49 _ _ _ _ _ _ ?_
          refine And.intro (fun _ => ?_) (fun c => absurd rfl c)
          refine Ok_rt (mayF (by decide) e03) ?_
          refine And.intro (fun c => absurd rfl c) (fun _ => ?_)
          refine ⟨rfl, FrM_tr f4 FrM_0, Or.inr ⟨hall, Or.inl ⟨?_, rfl, up_same⟩⟩⟩
          rw [hl]
          unfold lB
          rw [if_pos hB']
        · have hB' : bB h s n c ≠ NOD := hB
          have hB1' : bB h s n c / 16777216 = most := hB1
          show X 49 [_, _, _, _, _] _ _ _ _ _
          refine hX 30 [37, 75] 49 _ _ _ _ _ _ ?_
          refine And.intro (fun c => absurd c (by omega)) (fun _ => ?_)
          refine Ok_rt (mayT (by decide) e03) ?_
          refine And.intro (fun _ => ?_) (fun c => absurd c (by decide))
          refine And.intro ⟨by omega, by omega⟩ ?_
          show X 75 [_, _, _, _, _] _ _ _ _ _
          refine hX 30 [37] 75 _ _ _ _ _ _ ?_
          refine And.intro ⟨by omega, by omega⟩ ?_
          refine ih (c + 1) (a + most) h3 _ (by omega) (by omega) (by omega) f4 e03 (fun q c' h1 h2 => by rw [f3.1 72 (by decide) (by decide) (by decide) (by decide)]; exact hnd2 q c' h1 h2) ?_
          rw [hl]
          conv => lhs; unfold lB
          rw [if_neg hB', hB1']
    refine hX 20 [35, 37] 33 _ _ _ _ _ _ ?_
    show X 35 [_, _, _, _, _] _ _ _ _ _
    refine hX 20 [37] 35 _ _ _ _ _ _ ?_
    exact loop 4 0 0 h1 _ (by omega) (by omega) (by omega) f e0 hnd rfl
  · refine Ok_rt (mayF (by decide) e0) ?_
    refine And.intro (fun c => absurd rfl c) (fun _ => ?_)
    exact ⟨rfl, FrM_tr f FrM_0, Or.inl ⟨hall, rfl, up_same⟩⟩
theorem m_lotsUsed_x (hC : CI h) (hM : Cpl h) (hx : ¬ isSz h s) : Ok 256 [vR 50, vI s] (LL M) h (thP M h 0 1) := by
  have C0 := CI_0 (j := 0) (v := 0) hC
  have M0 := Cpl_0 (v := 0) hM
  have fin : ∀ h', h' = up (up h 50 0 0) 50 0 1 → FrM h h' ∧ h' 50 0 = 1 := fun h' e => by rw [e, up_up]; exact ⟨FrM_0, up_same⟩
  refine ok_body B_X9_lotsUsed rfl (fun X hX => ?_)
  refine hX 60 [33] 0 _ _ _ _ _ _ ?_
  refine Ok_mono (fun o' Λ' h' hpost => ?_) (m_isSize (M := M) (i := s) C0 M0)
  obtain ⟨rfl, rfl, x, rfl, hb⟩ := hpost
  rcases hb with ⟨hb, -⟩ | ⟨-, rfl⟩
  · exact absurd (isSz_0.mp hb) hx
  · refine Ok_rt (mayF (by decide) up_same) ?_
    refine And.intro (fun _ => ?_) (fun c => absurd rfl c)
    exact ⟨rfl, rfl, fin _ rfl⟩
theorem m_possible (hC : CI h) (hM : Cpl h) (hn : rd (h 21) 4 3 = (n : Int)) {ns : Nat} (hns : rd (h 21) 4 0 = (ns : Int)) :
    Ok 257 [vR 50] (LL M) h (fun o Λ' h' => Λ' = LL M ∧ FrM h h' ∧ h' 50 0 = 0 ∧ ∃ r, o = .inl (some (vI r)) ∧ orF (canM h n) ns 0 0 r) := by
  have n6 : n ≤ 6 := by have := hC.1.2.2.2.1; omega
  have ns6 := hC.1.1
  have e1 : h 50 1 = (ns : Int) := by rw [hM.1.1]; exact hns
  refine ok_body B_X9_possible rfl (fun X hX => ?_)
  have loop : ∀ (m t : Nat) (a : Int) (h1 : HP) (j3 j4 : PV), t + m = ns → inR a → FrM h h1 → h1 50 0 = 0 → (∀ r, orF (canM h n) m t a r → orF (canM h n) ns 0 0 r) → X 9 [vR 50, vI a, vI (t : Int), j3, j4] [] (LL M) h1 0 0 := by
    intro m
    induction m with
    | zero =>
      intro t a h1 j3 j4 ht hra f e0 hl
      have g1 : h1 50 1 = (ns : Int) := by rw [f.2 1 (by decide) (by decide) (by decide) (by decide) (by decide)]; exact e1
      refine hX 20 [] 9 _ _ _ _ _ _ ?_
      refine And.intro (fun _ => ?_) (fun c14 => absurd c14 (by omega))
      exact ⟨rfl, f, e0, a, rfl, hl a rfl⟩
    | succ m ih =>
      intro t a h1 j3 j4 ht hra f e0 hl
      have g1 : h1 50 1 = (ns : Int) := by rw [f.2 1 (by decide) (by decide) (by decide) (by decide) (by decide)]; exact e1
      have tS : isSz h (t : Int) := ⟨by omega, by omega⟩
      have C1 := CI_M hC f
      have M1 := Cpl_M hM f
      have x21 := f.1 21 (by decide) (by decide)
      have eg : ∀ s p, gD h1 s p = gD h s p := fun s p => gD_of (f.1 22 (by decide) (by decide)) (f.1 23 (by decide) (by decide)) (f.1 24 (by decide) (by decide)) (f.1 26 (by decide) (by decide)) (f.1 28 (by decide) (by decide)) s p
      have eN : ∀ p, gN h1 p = gN h p := fun p => gN_of (f.1 25 (by decide) (by decide)) p
      have eA : allK h1 t n ↔ allK h t n := by unfold allK; simp only [eg, eN]
      refine hX 40 [23] 9 _ _ _ _ _ _ ?_
      refine And.intro (fun c14 => absurd c14 (by omega)) (fun c14 => ?_)
      refine Ok_mono (fun o' Λ' h2 hpost => ?_) (m_knitsAll (M := M) (h := h1) (s := (t : Int)) (n := n) C1 M1 (by unfold isSz; rw [x21]; exact tS) (by rw [x21]; exact hn))
      obtain ⟨rfl, f2, ⟨x, rfl, hb⟩, hnd⟩ := hpost
      have hnd' : ∀ q c : Nat, q < n → c < 4 → h2 72 (4 * q + c) = nCol h t q c := fun q c a b => by
        rw [hnd q c a b]; unfold nCol; rw [eg, eN, f.1 28 (by decide) (by decide)]
      have f3 : FrM h h2 := FrM_tr f ⟨fun c c1 c2 => f2.1 c c1 (by omega) (by omega) (by omega) (by omega), fun q _ q1 q2 q3 _ => f2.2 q q1 q2 q3⟩
      have e02 : h2 50 0 = 0 := by rw [f2.2 0 (by decide) (by decide) (by decide)]; exact e0
      have done : ∀ (v : Int) (h3 : HP) (j4 : PV), FrM h h3 → h3 50 0 = 0 → bI v (canM h n t) → X 51 [vR 50, vI a, vI (t : Int), vI v, j4] [] (LL M) h3 0 0 := by
        intro v h3 j4 f4 e03 hv1
        have fin : ∀ (b : Int), inR b → (∀ r, orF (canM h n) m (t + 1) b r → orF (canM h n) (m + 1) t a r) → X 64 [vR 50, vI a, vI (t : Int), vI v, j4] [vI b] (LL M) h3 0 0 := by
          intro b hrb hb1
          refine hX 20 [65] 64 _ _ _ _ _ _ ?_
          show X 65 [_, _, _, _, _] _ _ _ _ _
          refine hX 20 [9] 65 _ _ _ _ _ _ ?_
          refine And.intro ⟨by omega, by omega⟩ ?_
          exact ih (t + 1) b h3 _ _ (by omega) hrb f4 e03 (fun r hr => hl r (hb1 r hr))
        refine hX 20 [64] 51 _ _ _ _ _ _ ?_
        rcases hv1 with ⟨y, rfl⟩ | ⟨y, rfl⟩
        · refine And.intro (fun c => absurd c (by decide)) (fun _ => ?_)
          exact fin _ (ior_in _ _) (fun r hr => Or.inl ⟨y, hr⟩)
        · refine And.intro (fun _ => ?_) (fun c => absurd rfl c)
          refine fin _ (ior_in _ _) (fun r hr => Or.inr ⟨y, ?_⟩)
          rw [ior_0 hra] at hr
          exact hr
      have inner : ∀ (mc c : Nat) (v : Int) (h3 : HP), c + mc = 4 → FrM h h3 → h3 50 0 = 0 → (∀ q c : Nat, q < n → c < 4 → h3 72 (4 * q + c) = nCol h t q c) → bI v (allK h t n ∧ ∀ c' : Nat, c' < c → bB h t n c' ≠ NOD) →
          X 26 [vR 50, vI a, vI (t : Int), vI v, vI (c : Int)] [] (LL M) h3 0 0 := by
        intro mc
        induction mc with
        | zero =>
          intro c v h3 hc f4 e03 hnd3 hv1
          have ec : c = 4 := by omega
          subst ec
          refine hX 20 [51] 26 _ _ _ _ _ _ ?_
          refine And.intro (fun _ => ?_) (fun c29 => absurd c29 (by omega))
          exact done v h3 _ f4 e03 hv1
        | succ mc ihc =>
          intro c v h3 hc f4 e03 hnd3 hv1
          have dl := DlC_all (c := (c : Int)) hC hM tS hn (f4.1 57 (by decide) (by decide)) (f4.2 4 (by decide) (by decide) (by decide) (by decide) (by decide)) hnd3 (by omega)
          refine hX 20 [45, 51] 26 _ _ _ _ _ _ ?_
          refine And.intro (fun c29 => absurd c29 (by omega)) (fun c29 => ?_)
          rcases hv1 with ⟨y, rfl⟩ | ⟨y, rfl⟩
          · refine And.intro (fun c => absurd c (by decide)) (fun _ => ?_)
            refine Ok_mono (fun o' Λ' h4 hpost => ?_) (m_deals (M := M) dl (most := 6) (by decide))
            obtain ⟨rfl, f5, h46, h75, hor⟩ := hpost
            have nxt : ∀ v, bI v (allK h t n ∧ ∀ c' : Nat, c' < c + 1 → bB h t n c' ≠ NOD) → X 45 [vR 50, vI a, vI (t : Int), vI v, vI (c : Int)] [] (LL M) h4 0 0 := by
              intro v hv2
              refine hX 20 [26] 45 _ _ _ _ _ _ ?_
              refine And.intro ⟨by omega, by omega⟩ ?_
              exact ihc (c + 1) v h4 (by omega) (FrM_tr f4 (FrM_D f5)) (by rw [f5.2 0 (by decide)]; exact e03) (fun q c' h1 h2 => by rw [f5.1 72 (by decide) (by decide) (by decide) (by decide)]; exact hnd3 q c' h1 h2) hv2
            rcases hor with ⟨rfl, d, d1, d2, d3⟩ | ⟨rfl, hno⟩
            · refine nxt 1 (Or.inl ⟨⟨y.1, fun c' hc' => ?_⟩, rfl⟩)
              by_cases z : c' = c
              · rw [z]
                have := CL_le n6 (NM_lt (wC h t n c) n) _ (lotN h) dl.1.2 (NM (wC h t n c) n) (Nat.le_refl _) (sub_of (fun _ h => h)) (VA_of (fun p _ => (dl.2.2.2.2.1 p).1) d1)
                exact this.1
              · exact y.2 c' (by omega)
            · refine nxt 0 (Or.inr ⟨fun z => ?_, rfl⟩)
              exact z.2 c (by omega) (deal_none n6 dl.1.2 (fun p _ => (dl.2.2.2.2.1 p).1) hno)
          · refine And.intro (fun _ => ?_) (fun c => absurd rfl c)
            exact done 0 h3 _ f4 e03 (Or.inr ⟨fun z => y ⟨z.1, fun c' hc' => z.2 c' (by omega)⟩, rfl⟩)
      show X 23 [_, _, _, _, _] _ _ _ _ _
      refine hX 20 [26] 23 _ _ _ _ _ _ ?_
      refine inner 4 0 x h2 (by omega) f3 e02 hnd' ?_
      rcases hb with ⟨y, rfl⟩ | ⟨y, rfl⟩
      · exact Or.inl ⟨⟨eA.mp y, fun c' hc' => absurd hc' (Nat.not_lt_zero _)⟩, rfl⟩
      · exact Or.inr ⟨fun z => y (eA.mpr z.1), rfl⟩
  refine hX 20 [7, 9] 0 _ _ _ _ _ _ ?_
  show X 7 [_, _, _, _, _] _ _ _ _ _
  refine hX 20 [9] 7 _ _ _ _ _ _ ?_
  exact loop ns 0 0 _ _ _ (by omega) ⟨by decide, by decide⟩ FrM_0 up_same (fun r hr => hr)
end MLOTS
