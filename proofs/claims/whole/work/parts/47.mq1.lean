/-! ===== the model: failure, rows, partRows, stitches, partAt ===== -/
/-- the end of a call that answers -/
def vaP (M : List CT) (h : HP) (v : PV) : Post := fun o Λ' h' => o = .inl (some v) ∧ Λ' = LL M ∧ FrM h h' ∧ h' 50 0 = 0
section MQ1
variable {M : List CT} {h : HP} {i j m s p c x r w : Int} {k : Nat}
theorem fl_of {D : KD} {n : Nat} {a b : Int} (ha : a = (md D n : Nat)) (hb : b = if md D n < n then why D (md D n) else 0) : (if b = 0 then 0 else 10 * a + b) = fl D n := by
  unfold fl
  have sp := md_spec D n
  by_cases z : md D n < n
  · rw [if_pos z] at hb ⊢
    have : why D (md D n) ≠ 0 := by rcases sp.2.2 with y | y; omega; exact y
    rw [hb, if_neg this, ha]
  · rw [if_neg z] at hb ⊢
    rw [if_pos hb]
theorem why_bd (D : KD) (k : Nat) : 0 ≤ why D k ∧ why D k ≤ 3 := by
  unfold why whyV
  repeat' split
  all_goals omega
theorem KnIs_bd {h' : HP} {D : KD} {n : Nat} (hI : KnIs h' D n) (hn : n ≤ 10) : (0 ≤ h' 50 40 ∧ h' 50 40 ≤ 100) ∧ 0 ≤ h' 50 41 ∧ h' 50 41 ≤ 100 := by
  have m := (md_spec D n).1
  have a := hI.1
  have b := hI.2.2.1
  have w := why_bd D (md D n)
  refine ⟨⟨by omega, by omega⟩, ?_⟩
  rw [b]
  split <;> omega
theorem m_failure (hC : CI h) (hM : Cpl h) (hs : isSz h s) (hp : isPc h p) : Ok 235 [vR 50, vI s, vI p] (LL M) h (vaP M h (vI (fl (gD h s p) (gN h p)))) := by
  have kk := KOK_h hC hs hp
  refine ok_body B_X9_failure rfl (fun X hX => ?_)
  refine hX 60 [] 0 _ _ _ _ _ _ ?_
  refine Ok_mono (fun o' Λ' h' hpost => ?_) (m_mayKnit0 (M := M) hC hM hs hp)
  obtain ⟨rfl, rfl, f, e0, e69, hI⟩ := hpost
  have kb := KnIs_bd hI kk.2.2
  refine And.intro (fun c => absurd c (by decide)) (fun _ => ?_)
  refine Ok_rt (m_failed kb.1 kb.2) ?_
  exact ⟨by rw [fl_of hI.1 hI.2.2.1], rfl, f, e0⟩
theorem m_failure_x (hC : CI h) (hM : Cpl h) (hx : ¬ (isSz h s ∧ isPc h p)) : Ok 235 [vR 50, vI s, vI p] (LL M) h (thP M h 0 1) := by
  refine ok_body B_X9_failure rfl (fun X hX => ?_)
  refine hX 60 [] 0 _ _ _ _ _ _ ?_
  refine Ok_mono (fun o' Λ' h' hpost => ?_) (m_mayKnit0_x (M := M) hC hM hx)
  obtain ⟨rfl, rfl, f, e0⟩ := hpost
  refine And.intro (fun _ => ?_) (fun c => absurd rfl c)
  exact ⟨rfl, rfl, f, e0⟩
theorem m_rows (hC : CI h) (hM : Cpl h) (hs : isSz h s) (hp : isPc h p) : Ok 236 [vR 50, vI s, vI p] (LL M) h (vaP M h (vI (rwN h s p))) := by
  refine ok_body B_X9_rows rfl (fun X hX => ?_)
  refine hX 60 [] 0 _ _ _ _ _ _ ?_
  refine Ok_mono (fun o' Λ' h' hpost => ?_) (m_mayKnit0 (M := M) hC hM hs hp)
  obtain ⟨rfl, rfl, f, e0, e69, hI⟩ := hpost
  refine And.intro (fun c => absurd c (by decide)) (fun _ => ?_)
  exact ⟨congrArg (fun z => Sum.inl (some (vI z))) hI.2.1, rfl, f, e0⟩
theorem m_rows_x (hC : CI h) (hM : Cpl h) (hx : ¬ (isSz h s ∧ isPc h p)) : Ok 236 [vR 50, vI s, vI p] (LL M) h (thP M h 0 1) := by
  refine ok_body B_X9_rows rfl (fun X hX => ?_)
  refine hX 60 [] 0 _ _ _ _ _ _ ?_
  refine Ok_mono (fun o' Λ' h' hpost => ?_) (m_mayKnit0_x (M := M) hC hM hx)
  obtain ⟨rfl, rfl, f, e0⟩ := hpost
  refine And.intro (fun _ => ?_) (fun c => absurd rfl c)
  exact ⟨rfl, rfl, f, e0⟩
theorem m_partRows (hC : CI h) (hM : Cpl h) (hs : isSz h s) (hp : isPc h p) (hk : isPa h p k) (hm : k < mdN h s p) : Ok 238 [vR 50, vI s, vI p, vI (k : Int)] (LL M) h (vaP M h (vI (kR (gD h s p) k))) := by
  have kk := KOK_h hC hs hp
  have md1 := (md_spec (gD h s p) (gN h p)).1
  have hm1 : k < md (gD h s p) (gN h p) := hm
  refine ok_body B_X9_partRows rfl (fun X hX => ?_)
  refine hX 60 [] 0 _ _ _ _ _ _ ?_
  refine Ok_mono (fun o' Λ' h' hpost => ?_) (m_mayAsk0 (M := M) hC hM hs hp hk (by omega))
  obtain ⟨rfl, rfl, f, e0, e69, hI⟩ := hpost
  have a1 := hI.2.2.2.1 k (by omega)
  have a2 := hI.2.2.2.1 (k + 1) (by omega)
  have t1 := tp_bd kk.1 k (by omega)
  have t2 := tp_bd kk.1 (k + 1) (by omega)
  have et : tp (gD h s p) (k + 1) = tp (gD h s p) k + kR (gD h s p) k := rfl
  have b1 : h' 71 (k : Int).toNat = tp (gD h s p) k := by rw [Int.toNat_natCast]; exact a1
  have b2 : h' 71 ((k : Int) + 1).toNat = tp (gD h s p) (k + 1) := by rw [show ((k : Int) + 1).toNat = k + 1 by omega]; exact a2
  refine And.intro (fun c => absurd c (by decide)) (fun _ => ?_)
  refine And.intro ⟨by omega, by omega⟩ ?_
  refine And.intro ⟨by omega, by omega⟩ ?_
  refine And.intro ⟨by omega, by omega⟩ ?_
  rw [b1, b2]
  refine And.intro ⟨by omega, by omega⟩ ?_
  exact ⟨by rw [et, show tp (gD h s p) k + kR (gD h s p) k - tp (gD h s p) k = kR (gD h s p) k by omega], rfl, f, e0⟩
theorem m_partRows_x (hC : CI h) (hM : Cpl h) (hx : ¬ (isSz h s ∧ isPc h p ∧ isPa h p x)) : Ok 238 [vR 50, vI s, vI p, vI x] (LL M) h (thP M h 0 1) := by
  refine ok_body B_X9_partRows rfl (fun X hX => ?_)
  refine hX 60 [] 0 _ _ _ _ _ _ ?_
  refine Ok_mono (fun o' Λ' h' hpost => ?_) (m_mayAsk0_x (M := M) hC hM hx)
  obtain ⟨rfl, rfl, f, e0⟩ := hpost
  refine And.intro (fun _ => ?_) (fun c => absurd rfl c)
  exact ⟨rfl, rfl, f, e0⟩
theorem m_partRows_y (hC : CI h) (hM : Cpl h) (hs : isSz h s) (hp : isPc h p) (hk : isPa h p x) (hm : ¬ x < (mdN h s p : Nat)) : Ok 238 [vR 50, vI s, vI p, vI x] (LL M) h (thP M h 0 2) := by
  refine ok_body B_X9_partRows rfl (fun X hX => ?_)
  refine hX 60 [] 0 _ _ _ _ _ _ ?_
  refine Ok_mono (fun o' Λ' h' hpost => ?_) (m_mayAsk0_y (M := M) hC hM hs hp hk hm)
  obtain ⟨rfl, rfl, f, e0⟩ := hpost
  refine And.intro (fun _ => ?_) (fun c => absurd rfl c)
  exact ⟨rfl, rfl, f, e0⟩
theorem m_stitches (hC : CI h) (hM : Cpl h) (hs : isSz h s) (hp : isPc h p) (hk : k < mdN h s p) (h1 : tp (gD h s p) k ≤ r) (h2 : r < tp (gD h s p) (k + 1)) : Ok 240 [vR 50, vI s, vI p, vI r] (LL M) h (vaP M h (vI (sS (gD h s p) k (r - tp (gD h s p) k)))) := by
  have hr := rw_in hC hs hp hk h1 h2
  have rb := rwN_bd hC hs hp
  refine ok_body B_X9_stitches rfl (fun X hX => ?_)
  refine hX 60 [] 0 _ _ _ _ _ _ ?_
  refine Ok_mono (fun o' Λ' h' hpost => ?_) (m_hasRow0 (M := M) hC hM hs hp hr)
  obtain ⟨rfl, rfl, f, e0, e69, hI⟩ := hpost
  have et : tp (gD h s p) (k + 1) = tp (gD h s p) k + kR (gD h s p) k := rfl
  have g := hI.2.2.2.2 k hk (r - tp (gD h s p) k) (by omega) (by omega)
  rw [show tp (gD h s p) k + (r - tp (gD h s p) k) = r by omega] at g
  refine And.intro (fun c => absurd c (by decide)) (fun _ => ?_)
  refine And.intro ⟨by omega, by omega⟩ ?_
  exact ⟨congrArg (fun z => Sum.inl (some (vI z))) g, rfl, f, e0⟩
theorem m_stitches_x (hC : CI h) (hM : Cpl h) (hx : ¬ ((isSz h s ∧ isPc h p) ∧ 0 ≤ r ∧ r < rwN h s p)) : Ok 240 [vR 50, vI s, vI p, vI r] (LL M) h (thP M h 0 1) := by
  refine ok_body B_X9_stitches rfl (fun X hX => ?_)
  refine hX 60 [] 0 _ _ _ _ _ _ ?_
  refine Ok_mono (fun o' Λ' h' hpost => ?_) (m_hasRow0_x (M := M) hC hM hx)
  obtain ⟨rfl, rfl, f, e0⟩ := hpost
  refine And.intro (fun _ => ?_) (fun c => absurd rfl c)
  exact ⟨rfl, rfl, f, e0⟩
theorem m_partAt (hC : CI h) (hM : Cpl h) (hs : isSz h s) (hp : isPc h p) (hk : k < mdN h s p) (h1 : tp (gD h s p) k ≤ r) (h2 : r < tp (gD h s p) (k + 1)) : Ok 241 [vR 50, vI s, vI p, vI r] (LL M) h (vaP M h (vI (k : Int))) := by
  have hr := rw_in hC hs hp hk h1 h2
  have rb := rwN_bd hC hs hp
  have kk := KOK_h hC hs hp
  have md1 := (md_spec (gD h s p) (gN h p)).1
  have hk1 : k < md (gD h s p) (gN h p) := hk
  refine ok_body B_X9_partAt rfl (fun X hX => ?_)
  refine hX 60 [20] 0 _ _ _ _ _ _ ?_
  refine Ok_mono (fun o' Λ' h' hpost => ?_) (m_hasRow0 (M := M) hC hM hs hp hr)
  obtain ⟨rfl, rfl, f, e0, e69, hI⟩ := hpost
  have loop : ∀ (m q : Nat), q + m = k → X 20 [vR 50, vI s, vI p, vI r, vI (q : Int)] [] (LL M) h' 0 0 := by
    intro m
    induction m with
    | zero =>
      intro q hq
      have eq : q = k := by omega
      subst eq
      have a2 := hI.2.2.2.1 (q + 1) (by omega)
      have b2 : h' 71 ((q : Int) + 1).toNat = tp (gD h s p) (q + 1) := by rw [show ((q : Int) + 1).toNat = q + 1 by omega]; exact a2
      refine hX 20 [] 20 _ _ _ _ _ _ ?_
      refine And.intro ⟨by omega, by omega⟩ ?_
      refine And.intro ⟨by omega, by omega⟩ ?_
      rw [b2]
      refine And.intro (fun c30 => ?_) (fun c30 => absurd c30 (by omega))
      exact ⟨rfl, rfl, f, e0⟩
    | succ m ih =>
      intro q hq
      have a2 := hI.2.2.2.1 (q + 1) (by omega)
      have b2 : h' 71 ((q : Int) + 1).toNat = tp (gD h s p) (q + 1) := by rw [show ((q : Int) + 1).toNat = q + 1 by omega]; exact a2
      have tl := tp_le kk.1 (show q + 1 ≤ k by omega) (by omega)
      refine hX 20 [20] 20 _ _ _ _ _ _ ?_
      refine And.intro ⟨by omega, by omega⟩ ?_
      refine And.intro ⟨by omega, by omega⟩ ?_
      rw [b2]
      refine And.intro (fun c30 => absurd c30 (by omega)) (fun c30 => ?_)
      refine And.intro ⟨by omega, by omega⟩ ?_
      exact ih (q + 1) (by omega)
  refine And.intro (fun _ => ?_) (fun c => absurd c (by decide))
  exact loop k 0 (by omega)
theorem m_partAt_x (hC : CI h) (hM : Cpl h) (hx : ¬ ((isSz h s ∧ isPc h p) ∧ 0 ≤ r ∧ r < rwN h s p)) : Ok 241 [vR 50, vI s, vI p, vI r] (LL M) h (thP M h 0 1) := by
  refine ok_body B_X9_partAt rfl (fun X hX => ?_)
  refine hX 60 [] 0 _ _ _ _ _ _ ?_
  refine Ok_mono (fun o' Λ' h' hpost => ?_) (m_hasRow0_x (M := M) hC hM hx)
  obtain ⟨rfl, rfl, f, e0⟩ := hpost
  refine And.intro (fun c => absurd rfl c) (fun _ => ?_)
  exact ⟨rfl, rfl, f, e0⟩
end MQ1
