/-! ===== KnitGrader.differences ===== -/
/-- r is a and the number of those of m places from q on at which P holds -/
def cnF (P : Nat → Prop) : Nat → Nat → Int → Int → Prop
  | 0, _, a, r => r = a
  | m + 1, q, a, r => (P q ∧ cnF P m (q + 1) (a + 1) r) ∨ (¬ P q ∧ cnF P m (q + 1) a r)
def cnO (P : Nat → Nat → Prop) (n : Nat) : Nat → Nat → Int → Int → Prop
  | 0, _, a, r => r = a
  | m + 1, t, a, r => ∃ b, cnF (P t) n 0 a b ∧ cnO P n m (t + 1) b r
/-- the saved state of a slot -/
def slR (h : HP) (s : Int) : Nat → Int := cpA h 49 264 (s * 132) 30 132 0 132 30
def gE (h : HP) (s : Int) (t q : Int) : KD := cDr (h 22) (h 23) (h 24) (h 26) (slR h s) t q
def difP (h : HP) (s : Int) (t q : Nat) : Prop := ¬ likeK (gD h t q) (gE h s t q) (gN h q)
def FrD (h h' : HP) : Prop := ∀ c, (c < 30 ∨ 45 < c) → h' c = h c
theorem SameP_c (cr tk mk fc st st' : Nat → Int) (s p : Int) : SameP (cDr cr tk mk fc st s p) (cDr cr tk mk fc st' s p) := fun k => ⟨rfl, rfl, rfl, rfl, rfl, fun _ => rfl⟩
section DIFF
variable {N : List CT} {h : HP} {s : Int} {n ns : Nat}
theorem K_differences (hC : CI h) (hs : 0 ≤ s ∧ s < 2) (hv : isSv h s) (hS : StOK (slR h s)) (hn : rd (h 21) 4 3 = (n : Int)) (hns : rd (h 21) 4 0 = (ns : Int)) :
    Ok 163 [vR 1, vI s] (LC N) h (fun o Λ' h' => Λ' = LC N ∧ FrD h h' ∧ ∃ r, o = .inl (some (vI r)) ∧ cnO (difP h s) n ns 0 0 r) := by
  have hn6 : n ≤ 6 := by have := hC.1.2.2.2.1; omega
  have hs6 := hC.1.1
  refine ok_body B_X8_differences rfl (fun X hX => ?_)
  have inner : ∀ (t : Nat), t < ns → ∀ (m q : Nat) (a : Int) (h1 : HP), q + m = n → 0 ≤ a → a ≤ 900 + q → FrD h h1 → h1 30 = slR h s →
      (∀ h2 b, FrD h h2 → h2 30 = slR h s → cnF (difP h s t) m q a b → b ≤ a + m → 0 ≤ b → X 41 [vR 1, vI s, vI (ns : Int), vI (n : Int), vI b, vI ((t : Int) + 1), vI (n : Int)] [] (LC N) h2 2 12) →
      X 50 [vR 1, vI s, vI (ns : Int), vI (n : Int), vI a, vI (t : Int), vI (q : Int)] [] (LC N) h1 2 12 := by
    intro t ht m
    induction m with
    | zero =>
      intro q a h1 hq ha1 ha2 hF h30 hgo
      have eq : q = n := by omega
      subst eq
      refine hX 12 [41] 50 _ _ _ _ _ _ ?_
      refine And.intro (fun c53 => ?_) (fun c53 => absurd c53 (by omega))
      refine And.intro ⟨by omega, by omega⟩ ?_
      exact hgo h1 a hF h30 rfl (by omega) ha1
    | succ m ih =>
      intro q a h1 hq ha1 ha2 hF h30 hgo
      have e21 : h1 21 = h 21 := hF 21 (by omega)
      have e22 : h1 22 = h 22 := hF 22 (by omega)
      have e23 : h1 23 = h 23 := hF 23 (by omega)
      have e24 : h1 24 = h 24 := hF 24 (by omega)
      have e25 : h1 25 = h 25 := hF 25 (by omega)
      have e26 : h1 26 = h 26 := hF 26 (by omega)
      have e28 : h1 28 = h 28 := hF 28 (by omega)
      have hP1 : PatOK (h1 21) (h1 22) (h1 23) (h1 24) (h1 25) (h1 26) := by rw [e21, e22, e23, e24, e25, e26]; exact hC.1
      have ts : 0 ≤ (t : Int) ∧ (t : Int) < 6 := ⟨by omega, by omega⟩
      have qp : 0 ≤ (q : Int) ∧ (q : Int) < rd (h1 21) 4 3 := ⟨by omega, by rw [e21]; omega⟩
      have kn := knit31_ok (N := N) (h := h1) (s := (t : Int)) (p := (q : Int)) hP1 (by rw [e28]; exact hC.2) ts qp
      have i1 : inR ((q : Int) + 1) := ⟨by omega, by omega⟩
      refine hX 60 [50] 50 _ _ _ _ _ _ ?_
      refine And.intro (fun c53 => absurd c53 (by omega)) (fun c53 => ?_)
      refine Ok_mono (fun o' Λ' h2 hpost => ?_) kn
      obtain ⟨rfl, rfl, hI, hF2⟩ := hpost
      have hQ := QI_knit hP1 (by rw [e28]; exact hC.2) ts qp hI (hF2 22 (by decide)) (hF2 23 (by decide)) (hF2 24 (by decide)) (hF2 26 (by decide))
      rw [e22, e23, e24, e25, e26, e28] at hQ
      have f21 : h2 21 = h1 21 := hF2 21 (by decide)
      have f22 : h2 22 = h1 22 := hF2 22 (by decide)
      have f23 : h2 23 = h1 23 := hF2 23 (by decide)
      have f24 : h2 24 = h1 24 := hF2 24 (by decide)
      have f25 : h2 25 = h1 25 := hF2 25 (by decide)
      have f26 : h2 26 = h1 26 := hF2 26 (by decide)
      have f30 : h2 30 = slR h s := by rw [hF2 30 (by decide)]; exact h30
      have hP2 : PatOK (h2 21) (h2 22) (h2 23) (h2 24) (h2 25) (h2 26) := by rw [f21, f22, f23, f24, f25, f26]; exact hP1
      have qp2 : 0 ≤ (q : Int) ∧ (q : Int) < rd (h2 21) 4 3 := by rw [f21]; exact qp
      have kn2 := knit36_ok (N := N) (h := h2) (s := (t : Int)) (p := (q : Int)) hP2 (by rw [f30]; exact hS) ts qp2
      refine Ok_mono (fun o' Λ' h3 hpost => ?_) kn2
      obtain ⟨rfl, rfl, hI3, hF3⟩ := hpost
      have hR := QI_knit hP2 (by rw [f30]; exact hS) ts qp2 hI3 (hF3 22 (by decide)) (hF3 23 (by decide)) (hF3 24 (by decide)) (hF3 26 (by decide))
      rw [f22, f23, f24, f25, f26, f30, e22, e23, e24, e25, e26] at hR
      have hQ3 := QI_of hQ (hF3 31 (by decide)) (hF3 32 (by decide)) (hF3 33 (by decide)) (hF3 34 (by decide)) (hF3 35 (by decide)) (hF3 22 (by decide)) (hF3 23 (by decide)) (hF3 24 (by decide)) (hF3 26 (by decide))
      have hFr : FrD h h3 := fun c hc => by rw [hF3 c (by omega), hF2 c (by omega)]; exact hF c hc
      have h330 : h3 30 = slR h s := by rw [hF3 30 (by decide)]; exact f30
      have hsame : SameP (gD h t q) (gE h s t q) := SameP_c _ _ _ _ _ _ _ _
      refine Ok_mono (fun o' Λ' h4 hpost => ?_) (dLike (D := gD h t q) (E := gE h s t q) (n := gN h q) (p := (q : Int)) hsame hQ3 hR)
      obtain ⟨rfl, rfl, ho⟩ := hpost
      rcases ho with ⟨rfl, hl⟩ | ⟨rfl, hl⟩
      · refine And.intro (fun c97 => ?_) (fun c97 => absurd c97 (by decide))
        refine And.intro i1 ?_
        refine ih (q + 1) a _ (by omega) ha1 (by omega) hFr h330 (fun h5 b x1 x2 x3 x4 x5 => hgo h5 b x1 x2 (Or.inr ⟨fun z => z hl, x3⟩) (by omega) x5)
      · refine And.intro (fun c97 => absurd rfl c97) (fun c97 => ?_)
        refine And.intro ⟨by omega, by omega⟩ ?_
        refine And.intro i1 ?_
        refine ih (q + 1) (a + 1) _ (by omega) (by omega) (by omega) hFr h330 (fun h5 b x1 x2 x3 x4 x5 => hgo h5 b x1 x2 (Or.inl ⟨hl, x3⟩) (by omega) x5)
  have outer : ∀ (m t : Nat) (a : Int) (h1 : HP) (j6 : PV), t + m = ns → 0 ≤ a → a ≤ 6 * t → FrD h h1 → h1 30 = slR h s → (∀ r, cnO (difP h s) n m t a r → cnO (difP h s) n ns 0 0 r) → X 41 [vR 1, vI s, vI (ns : Int), vI (n : Int), vI a, vI (t : Int), j6] [] (LC N) h1 2 12 := by
    intro m
    induction m with
    | zero =>
      intro t a h1 j6 ht ha1 ha2 hF h30 he
      refine hX 8 [] 41 _ _ _ _ _ _ ?_
      refine And.intro (fun c44 => ?_) (fun c44 => absurd c44 (by omega))
      exact ⟨rfl, hF, a, rfl, he a rfl⟩
    | succ m ih =>
      intro t a h1 j6 ht ha1 ha2 hF h30 he
      refine hX 12 [50] 41 _ _ _ _ _ _ ?_
      refine And.intro (fun c44 => absurd c44 (by omega)) (fun c44 => ?_)
      refine inner t (by omega) n 0 a h1 (by omega) ha1 (by omega) hF h30 (fun h2 b x1 x2 x3 x4 x5 => ?_)
      exact ih (t + 1) b h2 _ (by omega) x5 (by omega) x1 x2 (fun r hr => he r ⟨b, x3, hr⟩)
  refine hX 30 [41] 0 _ _ _ _ _ _ ?_
  refine Ok_rt (ckSv_ok hs hv) ?_
  refine Ok_rt (bring2_ok (Or.inr ⟨rfl, rfl⟩) ⟨by omega, by omega⟩) ?_
  refine Ok_rt tot_ok ?_
  refine Ok_rt tot_ok ?_
  have e21 : cpA h (48 + 1) 264 (s * 132) 30 132 0 132 21 = h 21 := cpA_cell (by decide)
  rw [e21, hn, hns]
  exact outer ns 0 0 _ _ (by omega) (by omega) (by omega) (fun c hc => cpA_cell (by omega)) rfl (fun r hr => hr)
end DIFF
