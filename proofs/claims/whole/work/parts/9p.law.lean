/-! ===== the law's loop ===== -/
def LPost : Post := fun o _ _ => o = .inl (some (vI 1))
def HX (X : XT) (M : MC) : Prop := ∀ (f : Nat) (cuts : List Nat) (pc : Nat) (L st : List PV) (Λ : List CT) (h : HP) (k n : Nat), run Ok M X LPost f cuts pc L st Λ h k n → X pc L st Λ h k n
/-- what the script says may be taken for granted -/
def HZ (X : XT) (s : Nat → Int) (l : Int) : Prop := ∀ (pc : Nat) (L st : List PV) (Λ : List CT) (h : HP) (k n : Nat), ((∀ j : Nat, (j : Int) < l → h 900 j = s j) ∧ h 901 0 = l → X pc L st Λ h k n) → X pc L st Λ h k n
/-- the round goes on -/
def GO (X : XT) (i k n : Nat) : Prop := ∀ (h : HP) (t6 t7 t8 : PV) (k' n' : Nat), JV h → k' ≤ k + 5 → n' ≤ n + 30 → X 2720 [vR 900, vR 1, vR 50, vR 77, vR 78, vI (i : Int), t6, t7, t8] [] (LL MO) h k' n'
theorem bnd_in {M : MC} {k n : Nat} {P : Prop} (hk : k ≤ M.2.2.2.2.1) (hn : n ≤ M.2.2.2.2.2) (p : P) : bnd M k n P := by
  unfold bnd
  rw [Nat.ble_eq_true_of_le hk, Nat.ble_eq_true_of_le hn]
  exact p
theorem z_at {h : HP} {s : Nat → Int} {l : Int} (z : (∀ j : Nat, (j : Int) < l → h 900 j = s j) ∧ h 901 0 = l) {i j : Nat} (hi : (i : Int) + 6 ≤ l) (hj : j < 6) : h 900 ((i : Int) + (j : Int)).toNat = s (i + j) := by
  rw [show ((i : Int) + (j : Int)).toNat = i + j by omega]
  exact z.1 (i + j) (by omega)
section LAW
variable {X : XT} {s : Nat → Int} {l : Int} {h : HP} {t6 t7 t8 : PV} {i k n : Nat}
theorem C_316 (hX : HX X mcl_316) (hZ : HZ X s l) (hs : ∀ j : Nat, (j : Int) < l → inR (s j)) (hi : (i : Int) + 6 ≤ l) (hl : l ≤ 3072) (hk : k ≤ 4000) (hn : n ≤ 100000) (J : JV h) (K : GO X i k n) : X 316 [vR 900, vR 1, vR 50, vR 77, vR 78, vI (i : Int), t6, t7, t8] [] (LL MO) h k n := by
  refine hZ _ _ _ _ _ _ _ (fun zc => ?_)
  have e1 : h 900 ((i : Int) + 1).toNat = s (i + 1) := z_at (j := 1) zc hi (by decide)
  refine hX 60 [329] 316 _ _ _ _ _ _ ?_
  refine And.intro (show inR ((i : Int) + 1) from ⟨by omega, by omega⟩) ?_
  refine And.intro (show 0 ≤ (i : Int) + 1 ∧ (i : Int) + 1 < h 901 0 from ⟨by omega, by rw [zc.2]; omega⟩) ?_
  refine bnd_in (show k + 1 ≤ 601024 by omega) (show n + 6 ≤ 7293034 by omega) ?_
  show Ok 283 [vR 1, vI (h 900 ((i : Int) + 1).toNat), vR 77] (LL MO) h _
  rw [e1]
  refine Ok_mono (fun o Λ' g P => ?_) (P_truncate J)
  obtain ⟨rfl, k1, rfl, H2⟩ := P
  show X 329 [vR 900, vR 1, vR 50, vR 77, vR 78, vI (i : Int), vI k1, t7, t8] [] (LL MO) g _ _
  refine hZ _ _ _ _ _ _ _ (fun zg => ?_)
  have f1 : g 900 ((i : Int) + 1).toNat = s (i + 1) := z_at (j := 1) zg hi (by decide)
  refine hX 60 [2720] 329 _ _ _ _ _ _ ?_
  refine And.intro (show inR ((i : Int) + 1) from ⟨by omega, by omega⟩) ?_
  refine And.intro (show 0 ≤ (i : Int) + 1 ∧ (i : Int) + 1 < g 901 0 from ⟨by omega, by rw [zg.2]; omega⟩) ?_
  refine bnd_in (show k + 1 + 0 ≤ 601024 by omega) (show n + 6 + 0 ≤ 7293034 by omega) ?_
  show Ok 179 [vR 50, vI (g 900 ((i : Int) + 1).toNat)] (LL MO) g _
  rw [f1]
  refine Ok_mono (fun o Λ' g2 Q => ?_) H2
  obtain ⟨rfl, J2, e0, b, rfl, x, rfl, hq⟩ := Q
  refine bnd_in (show k + 1 + 0 + 0 ≤ 601024 by omega) (show n + 6 + 0 + 0 ≤ 7293034 by omega) ?_
  refine Ok_rt m_thrown ?_
  refine And.intro (fun c => ?_) (fun c => absurd e0 c)
  refine And.intro (fun c2 => ?_) (fun c2 => ?_)
  · exact K g2 _ _ _ _ _ J2 (by omega) (by omega)
  · refine And.intro ⟨by decide, by decide⟩ ?_
    refine And.intro (fun c3 => ?_) (fun c3 => ?_)
    · exact K g2 _ _ _ _ _ J2 (by omega) (by omega)
    · exact absurd (hq c2) c3
end LAW
