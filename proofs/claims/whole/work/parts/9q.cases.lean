/-! ===== the cases of the law's round (by mk9q.py) ===== -/
theorem dc_0 {a : UInt64} {q : Int} (h : nb64 a.toNat) (e : q = ((a.toNat : Nat) : Int)) : dcmpI (UInt64.ofNat q.toNat) a .l = 0 := by
  have e1 : UInt64.ofNat q.toNat = a := by rw [e, Int.toNat_natCast, UInt64.ofNat_toNat]
  rw [e1]
  unfold dcmpI
  rw [dcmp_self h]
  rfl
section LAW2
variable {X : XT} {s : Nat → Int} {l : Int} {h : HP} {t6 t7 t8 : PV} {i k n : Nat}
theorem C_212 (hX : HX X mcl_212) (hZ : HZ X s l) (hs : ∀ j : Nat, (j : Int) < l → inR (s j)) (hi : (i : Int) + 6 ≤ l) (hl : l ≤ 3072) (hk : k ≤ 4000) (hn : n ≤ 100000) (J : JV h) (K : GO X i k n) : X 212 [vR 900, vR 1, vR 50, vR 77, vR 78, vI (i : Int), t6, t7, t8] [] (LL MO) h k n := by
  refine hZ _ _ _ _ _ _ _ (fun zc => ?_)
  have e1 : h 900 ((i : Int) + 1).toNat = s (i + 1) := z_at (j := 1) zc hi (by decide)
  have e2 : h 900 ((i : Int) + 2).toNat = s (i + 2) := z_at (j := 2) zc hi (by decide)
  have e3 : h 900 ((i : Int) + 3).toNat = s (i + 3) := z_at (j := 3) zc hi (by decide)
  have e4 : h 900 ((i : Int) + 4).toNat = s (i + 4) := z_at (j := 4) zc hi (by decide)
  have e5 : h 900 ((i : Int) + 5).toNat = s (i + 5) := z_at (j := 5) zc hi (by decide)
  refine hX 100 [249] 212 _ _ _ _ _ _ ?_
  refine And.intro (show inR ((i : Int) + 1) from ⟨by omega, by omega⟩) ?_
  refine And.intro (show 0 ≤ (i : Int) + 1 ∧ (i : Int) + 1 < h 901 0 from ⟨by omega, by rw [zc.2]; omega⟩) ?_
  refine And.intro (show inR ((i : Int) + 2) from ⟨by omega, by omega⟩) ?_
  refine And.intro (show 0 ≤ (i : Int) + 2 ∧ (i : Int) + 2 < h 901 0 from ⟨by omega, by rw [zc.2]; omega⟩) ?_
  refine And.intro (show inR ((i : Int) + 3) from ⟨by omega, by omega⟩) ?_
  refine And.intro (show 0 ≤ (i : Int) + 3 ∧ (i : Int) + 3 < h 901 0 from ⟨by omega, by rw [zc.2]; omega⟩) ?_
  refine And.intro (show inR ((i : Int) + 4) from ⟨by omega, by omega⟩) ?_
  refine And.intro (show 0 ≤ (i : Int) + 4 ∧ (i : Int) + 4 < h 901 0 from ⟨by omega, by rw [zc.2]; omega⟩) ?_
  refine And.intro (show inR ((i : Int) + 5) from ⟨by omega, by omega⟩) ?_
  refine And.intro (show 0 ≤ (i : Int) + 5 ∧ (i : Int) + 5 < h 901 0 from ⟨by omega, by rw [zc.2]; omega⟩) ?_
  refine bnd_in (show k + 1 ≤ 601024 by omega) (show n + 6 ≤ 7293034 by omega) ?_
  show Ok 282 [vR 1, vI (h 900 ((i : Int) + 1).toNat), vI (h 900 ((i : Int) + 2).toNat), vI (h 900 ((i : Int) + 3).toNat), vI (h 900 ((i : Int) + 4).toNat), vI (h 900 ((i : Int) + 5).toNat), vR 77] (LL MO) h _
  rw [e1, e2, e3, e4, e5]
  refine Ok_mono (fun o Λ' g P => ?_) (P_append J (hs _ (by omega)) (hs _ (by omega)) (hs _ (by omega)) (hs _ (by omega)) (hs _ (by omega)))
  obtain ⟨rfl, k1, rfl, H2⟩ := P
  show X 249 [vR 900, vR 1, vR 50, vR 77, vR 78, vI (i : Int), vI k1, t7, t8] [] (LL MO) g _ _
  refine hZ _ _ _ _ _ _ _ (fun zg => ?_)
  have f1 : g 900 ((i : Int) + 1).toNat = s (i + 1) := z_at (j := 1) zg hi (by decide)
  have f2 : g 900 ((i : Int) + 2).toNat = s (i + 2) := z_at (j := 2) zg hi (by decide)
  have f3 : g 900 ((i : Int) + 3).toNat = s (i + 3) := z_at (j := 3) zg hi (by decide)
  have f4 : g 900 ((i : Int) + 4).toNat = s (i + 4) := z_at (j := 4) zg hi (by decide)
  have f5 : g 900 ((i : Int) + 5).toNat = s (i + 5) := z_at (j := 5) zg hi (by decide)
  refine hX 100 [2720] 249 _ _ _ _ _ _ ?_
  refine And.intro (show inR ((i : Int) + 1) from ⟨by omega, by omega⟩) ?_
  refine And.intro (show 0 ≤ (i : Int) + 1 ∧ (i : Int) + 1 < g 901 0 from ⟨by omega, by rw [zg.2]; omega⟩) ?_
  refine And.intro (show inR ((i : Int) + 2) from ⟨by omega, by omega⟩) ?_
  refine And.intro (show 0 ≤ (i : Int) + 2 ∧ (i : Int) + 2 < g 901 0 from ⟨by omega, by rw [zg.2]; omega⟩) ?_
  refine And.intro (show inR ((i : Int) + 3) from ⟨by omega, by omega⟩) ?_
  refine And.intro (show 0 ≤ (i : Int) + 3 ∧ (i : Int) + 3 < g 901 0 from ⟨by omega, by rw [zg.2]; omega⟩) ?_
  refine And.intro (show inR ((i : Int) + 4) from ⟨by omega, by omega⟩) ?_
  refine And.intro (show 0 ≤ (i : Int) + 4 ∧ (i : Int) + 4 < g 901 0 from ⟨by omega, by rw [zg.2]; omega⟩) ?_
  refine And.intro (show inR ((i : Int) + 5) from ⟨by omega, by omega⟩) ?_
  refine And.intro (show 0 ≤ (i : Int) + 5 ∧ (i : Int) + 5 < g 901 0 from ⟨by omega, by rw [zg.2]; omega⟩) ?_
  refine bnd_in (show k + 1 + 0 ≤ 601024 by omega) (show n + 6 + 0 ≤ 7293034 by omega) ?_
  show Ok 178 [vR 50, vI (g 900 ((i : Int) + 1).toNat), vI (g 900 ((i : Int) + 2).toNat), vI (g 900 ((i : Int) + 3).toNat), vI (g 900 ((i : Int) + 4).toNat), vI (g 900 ((i : Int) + 5).toNat)] (LL MO) g _
  rw [f1, f2, f3, f4, f5]
  refine Ok_mono (fun o Λ' g2 Q => ?_) H2
  obtain ⟨rfl, J2, e0, b, rfl, x, rfl, hq⟩ := Q
  refine bnd_in (show k + 1 + 0 + 0 ≤ 601024 by omega) (show n + 6 + 0 + 0 ≤ 7293034 by omega) ?_
  refine Ok_rt m_thrown ?_
  refine And.intro (fun c => ?_) (fun c => absurd e0 c)
  refine And.intro (fun c2 => ?_) (fun c2 => ?_)
  · exact K g2 _ _ _ _ _ J2 (by omega) (by omega)
  · refine And.intro ⟨by decide, by decide⟩ ?_
    exact And.intro (fun c3 => K g2 _ _ _ _ _ J2 (by omega) (by omega)) (fun c3 => absurd (hq c2) c3)
theorem C_372 (hX : HX X mcl_372) (hZ : HZ X s l) (hs : ∀ j : Nat, (j : Int) < l → inR (s j)) (hi : (i : Int) + 6 ≤ l) (hl : l ≤ 3072) (hk : k ≤ 4000) (hn : n ≤ 100000) (J : JV h) (K : GO X i k n) : X 372 [vR 900, vR 1, vR 50, vR 77, vR 78, vI (i : Int), t6, t7, t8] [] (LL MO) h k n := by
  refine hZ _ _ _ _ _ _ _ (fun zc => ?_)
  refine hX 100 [379] 372 _ _ _ _ _ _ ?_
  refine bnd_in (show k + 1 ≤ 601024 by omega) (show n + 6 ≤ 7293034 by omega) ?_
  show Ok 284 [vR 1, vR 77] (LL MO) h _
  refine Ok_mono (fun o Λ' g P => ?_) (P_load J)
  obtain ⟨rfl, k1, rfl, H2⟩ := P
  show X 379 [vR 900, vR 1, vR 50, vR 77, vR 78, vI (i : Int), vI k1, t7, t8] [] (LL MO) g _ _
  refine hZ _ _ _ _ _ _ _ (fun zg => ?_)
  refine hX 100 [2720] 379 _ _ _ _ _ _ ?_
  refine bnd_in (show k + 1 + 0 ≤ 601024 by omega) (show n + 6 + 0 ≤ 7293034 by omega) ?_
  show Ok 207 [vR 50] (LL MO) g _
  refine Ok_mono (fun o Λ' g2 Q => ?_) H2
  obtain ⟨rfl, J2, e0, b, rfl, x, rfl, hq⟩ := Q
  refine bnd_in (show k + 1 + 0 + 0 ≤ 601024 by omega) (show n + 6 + 0 + 0 ≤ 7293034 by omega) ?_
  refine Ok_rt m_thrown ?_
  refine And.intro (fun c => ?_) (fun c => absurd e0 c)
  refine And.intro (fun c2 => ?_) (fun c2 => ?_)
  · exact K g2 _ _ _ _ _ J2 (by omega) (by omega)
  · refine And.intro ⟨by decide, by decide⟩ ?_
    exact And.intro (fun c3 => K g2 _ _ _ _ _ J2 (by omega) (by omega)) (fun c3 => absurd (hq c2) c3)
theorem C_416 (hX : HX X mcl_416) (hZ : HZ X s l) (hs : ∀ j : Nat, (j : Int) < l → inR (s j)) (hi : (i : Int) + 6 ≤ l) (hl : l ≤ 3072) (hk : k ≤ 4000) (hn : n ≤ 100000) (J : JV h) (K : GO X i k n) : X 416 [vR 900, vR 1, vR 50, vR 77, vR 78, vI (i : Int), t6, t7, t8] [] (LL MO) h k n := by
  refine hX 60 [2720] 416 _ _ _ _ _ _ ?_
  refine bnd_in (show k + 0 ≤ 601024 by omega) (show n + 0 ≤ 7293034 by omega) ?_
  refine Ok_mono (fun o Λ' g P => ?_) (P_errorCode J)
  obtain ⟨rfl, x, rfl, H2⟩ := P
  refine bnd_in (show k + 0 + 0 ≤ 601024 by omega) (show n + 0 + 0 ≤ 7293034 by omega) ?_
  refine Ok_mono (fun o Λ' g2 Q => ?_) H2
  obtain ⟨rfl, J2, rfl⟩ := Q
  exact And.intro (fun c => K g2 _ _ _ _ _ J2 (by omega) (by omega)) (fun c => absurd rfl c)
theorem C_429 (hX : HX X mcl_429) (hZ : HZ X s l) (hs : ∀ j : Nat, (j : Int) < l → inR (s j)) (hi : (i : Int) + 6 ≤ l) (hl : l ≤ 3072) (hk : k ≤ 4000) (hn : n ≤ 100000) (J : JV h) (K : GO X i k n) : X 429 [vR 900, vR 1, vR 50, vR 77, vR 78, vI (i : Int), t6, t7, t8] [] (LL MO) h k n := by
  refine hX 60 [2720] 429 _ _ _ _ _ _ ?_
  refine bnd_in (show k + 0 ≤ 601024 by omega) (show n + 0 ≤ 7293034 by omega) ?_
  refine Ok_mono (fun o Λ' g P => ?_) (P_errorPosition J)
  obtain ⟨rfl, x, rfl, H2⟩ := P
  refine bnd_in (show k + 0 + 0 ≤ 601024 by omega) (show n + 0 + 0 ≤ 7293034 by omega) ?_
  refine Ok_mono (fun o Λ' g2 Q => ?_) H2
  obtain ⟨rfl, J2, rfl⟩ := Q
  exact And.intro (fun c => K g2 _ _ _ _ _ J2 (by omega) (by omega)) (fun c => absurd rfl c)
theorem C_442 (hX : HX X mcl_442) (hZ : HZ X s l) (hs : ∀ j : Nat, (j : Int) < l → inR (s j)) (hi : (i : Int) + 6 ≤ l) (hl : l ≤ 3072) (hk : k ≤ 4000) (hn : n ≤ 100000) (J : JV h) (K : GO X i k n) : X 442 [vR 900, vR 1, vR 50, vR 77, vR 78, vI (i : Int), t6, t7, t8] [] (LL MO) h k n := by
  refine hZ _ _ _ _ _ _ _ (fun zc => ?_)
  have e1 : h 900 ((i : Int) + 1).toNat = s (i + 1) := z_at (j := 1) zc hi (by decide)
  refine hX 100 [455] 442 _ _ _ _ _ _ ?_
  refine And.intro (show inR ((i : Int) + 1) from ⟨by omega, by omega⟩) ?_
  refine And.intro (show 0 ≤ (i : Int) + 1 ∧ (i : Int) + 1 < h 901 0 from ⟨by omega, by rw [zc.2]; omega⟩) ?_
  refine bnd_in (show k + 2 ≤ 601024 by omega) (show n + 12 ≤ 7293034 by omega) ?_
  show Ok 285 [vR 1, vI (h 900 ((i : Int) + 1).toNat), vR 77] (LL MO) h _
  rw [e1]
  refine Ok_mono (fun o Λ' g P => ?_) (P_find J)
  obtain ⟨rfl, k1, rfl, H2⟩ := P
  show X 455 [vR 900, vR 1, vR 50, vR 77, vR 78, vI (i : Int), vI k1, t7, t8] [] (LL MO) g _ _
  refine hZ _ _ _ _ _ _ _ (fun zg => ?_)
  have f1 : g 900 ((i : Int) + 1).toNat = s (i + 1) := z_at (j := 1) zg hi (by decide)
  refine hX 100 [2720] 455 _ _ _ _ _ _ ?_
  refine And.intro (show inR ((i : Int) + 1) from ⟨by omega, by omega⟩) ?_
  refine And.intro (show 0 ≤ (i : Int) + 1 ∧ (i : Int) + 1 < g 901 0 from ⟨by omega, by rw [zg.2]; omega⟩) ?_
  refine bnd_in (show k + 2 + 0 ≤ 601024 by omega) (show n + 12 + 0 ≤ 7293034 by omega) ?_
  show Ok 211 [vR 50, vI (g 900 ((i : Int) + 1).toNat)] (LL MO) g _
  rw [f1]
  refine Ok_mono (fun o Λ' g2 Q => ?_) H2
  obtain ⟨rfl, J2, e0, b, rfl, x, rfl, hq⟩ := Q
  refine bnd_in (show k + 2 + 0 + 0 ≤ 601024 by omega) (show n + 12 + 0 + 0 ≤ 7293034 by omega) ?_
  refine Ok_rt m_thrown ?_
  refine And.intro (fun c => ?_) (fun c => absurd e0 c)
  refine And.intro (fun c2 => ?_) (fun c2 => ?_)
  · exact K g2 _ _ _ _ _ J2 (by omega) (by omega)
  · refine And.intro ⟨by decide, by decide⟩ ?_
    exact And.intro (fun c3 => K g2 _ _ _ _ _ J2 (by omega) (by omega)) (fun c3 => absurd (hq c2) c3)
theorem C_498 (hX : HX X mcl_498) (hZ : HZ X s l) (hs : ∀ j : Nat, (j : Int) < l → inR (s j)) (hi : (i : Int) + 6 ≤ l) (hl : l ≤ 3072) (hk : k ≤ 4000) (hn : n ≤ 100000) (J : JV h) (K : GO X i k n) : X 498 [vR 900, vR 1, vR 50, vR 77, vR 78, vI (i : Int), t6, t7, t8] [] (LL MO) h k n := by
  refine hZ _ _ _ _ _ _ _ (fun zc => ?_)
  have e1 : h 900 ((i : Int) + 1).toNat = s (i + 1) := z_at (j := 1) zc hi (by decide)
  refine hX 100 [511] 498 _ _ _ _ _ _ ?_
  refine And.intro (show inR ((i : Int) + 1) from ⟨by omega, by omega⟩) ?_
  refine And.intro (show 0 ≤ (i : Int) + 1 ∧ (i : Int) + 1 < h 901 0 from ⟨by omega, by rw [zc.2]; omega⟩) ?_
  refine bnd_in (show k + 1 ≤ 601024 by omega) (show n + 6 ≤ 7293034 by omega) ?_
  show Ok 286 [vR 1, vI (h 900 ((i : Int) + 1).toNat), vR 77] (LL MO) h _
  rw [e1]
  refine Ok_mono (fun o Λ' g P => ?_) (P_count J)
  obtain ⟨rfl, k1, rfl, H2⟩ := P
  show X 511 [vR 900, vR 1, vR 50, vR 77, vR 78, vI (i : Int), vI k1, t7, t8] [] (LL MO) g _ _
  refine hZ _ _ _ _ _ _ _ (fun zg => ?_)
  have f1 : g 900 ((i : Int) + 1).toNat = s (i + 1) := z_at (j := 1) zg hi (by decide)
  refine hX 100 [2720] 511 _ _ _ _ _ _ ?_
  refine And.intro (show inR ((i : Int) + 1) from ⟨by omega, by omega⟩) ?_
  refine And.intro (show 0 ≤ (i : Int) + 1 ∧ (i : Int) + 1 < g 901 0 from ⟨by omega, by rw [zg.2]; omega⟩) ?_
  refine bnd_in (show k + 1 + 0 ≤ 601024 by omega) (show n + 6 + 0 ≤ 7293034 by omega) ?_
  show Ok 212 [vR 50, vI (g 900 ((i : Int) + 1).toNat)] (LL MO) g _
  rw [f1]
  refine Ok_mono (fun o Λ' g2 Q => ?_) H2
  obtain ⟨rfl, J2, e0, b, rfl, x, rfl, hq⟩ := Q
  refine bnd_in (show k + 1 + 0 + 0 ≤ 601024 by omega) (show n + 6 + 0 + 0 ≤ 7293034 by omega) ?_
  refine Ok_rt m_thrown ?_
  refine And.intro (fun c => ?_) (fun c => absurd e0 c)
  refine And.intro (fun c2 => ?_) (fun c2 => ?_)
  · exact K g2 _ _ _ _ _ J2 (by omega) (by omega)
  · refine And.intro ⟨by decide, by decide⟩ ?_
    exact And.intro (fun c3 => K g2 _ _ _ _ _ J2 (by omega) (by omega)) (fun c3 => absurd (hq c2) c3)
theorem C_554 (hX : HX X mcl_554) (hZ : HZ X s l) (hs : ∀ j : Nat, (j : Int) < l → inR (s j)) (hi : (i : Int) + 6 ≤ l) (hl : l ≤ 3072) (hk : k ≤ 4000) (hn : n ≤ 100000) (J : JV h) (K : GO X i k n) : X 554 [vR 900, vR 1, vR 50, vR 77, vR 78, vI (i : Int), t6, t7, t8] [] (LL MO) h k n := by
  refine hZ _ _ _ _ _ _ _ (fun zc => ?_)
  have e1 : h 900 ((i : Int) + 1).toNat = s (i + 1) := z_at (j := 1) zc hi (by decide)
  have e2 : h 900 ((i : Int) + 2).toNat = s (i + 2) := z_at (j := 2) zc hi (by decide)
  refine hX 100 [573] 554 _ _ _ _ _ _ ?_
  refine And.intro (show inR ((i : Int) + 1) from ⟨by omega, by omega⟩) ?_
  refine And.intro (show 0 ≤ (i : Int) + 1 ∧ (i : Int) + 1 < h 901 0 from ⟨by omega, by rw [zc.2]; omega⟩) ?_
  refine And.intro (show inR ((i : Int) + 2) from ⟨by omega, by omega⟩) ?_
  refine And.intro (show 0 ≤ (i : Int) + 2 ∧ (i : Int) + 2 < h 901 0 from ⟨by omega, by rw [zc.2]; omega⟩) ?_
  refine bnd_in (show k + 2 ≤ 601024 by omega) (show n + 12 ≤ 7293034 by omega) ?_
  show Ok 287 [vR 1, vI (h 900 ((i : Int) + 1).toNat), vI (h 900 ((i : Int) + 2).toNat), vR 77] (LL MO) h _
  rw [e1, e2]
  refine Ok_mono (fun o Λ' g P => ?_) (P_value J)
  obtain ⟨rfl, k1, rfl, H2⟩ := P
  show X 573 [vR 900, vR 1, vR 50, vR 77, vR 78, vI (i : Int), vI k1, t7, t8] [] (LL MO) g _ _
  refine hZ _ _ _ _ _ _ _ (fun zg => ?_)
  have f1 : g 900 ((i : Int) + 1).toNat = s (i + 1) := z_at (j := 1) zg hi (by decide)
  have f2 : g 900 ((i : Int) + 2).toNat = s (i + 2) := z_at (j := 2) zg hi (by decide)
  refine hX 100 [2720] 573 _ _ _ _ _ _ ?_
  refine And.intro (show inR ((i : Int) + 1) from ⟨by omega, by omega⟩) ?_
  refine And.intro (show 0 ≤ (i : Int) + 1 ∧ (i : Int) + 1 < g 901 0 from ⟨by omega, by rw [zg.2]; omega⟩) ?_
  refine And.intro (show inR ((i : Int) + 2) from ⟨by omega, by omega⟩) ?_
  refine And.intro (show 0 ≤ (i : Int) + 2 ∧ (i : Int) + 2 < g 901 0 from ⟨by omega, by rw [zg.2]; omega⟩) ?_
  refine bnd_in (show k + 2 + 0 ≤ 601024 by omega) (show n + 12 + 0 ≤ 7293034 by omega) ?_
  show Ok 218 [vR 50, vI (g 900 ((i : Int) + 1).toNat), vI (g 900 ((i : Int) + 2).toNat)] (LL MO) g _
  rw [f1, f2]
  refine Ok_mono (fun o Λ' g2 Q => ?_) H2
  obtain ⟨rfl, J2, e0, b, rfl, x, rfl, hq⟩ := Q
  refine bnd_in (show k + 2 + 0 + 0 ≤ 601024 by omega) (show n + 12 + 0 + 0 ≤ 7293034 by omega) ?_
  refine Ok_rt m_thrown ?_
  refine And.intro (fun c => ?_) (fun c => absurd e0 c)
  refine And.intro (fun c2 => ?_) (fun c2 => ?_)
  · exact K g2 _ _ _ _ _ J2 (by omega) (by omega)
  · refine And.intro ⟨by decide, by decide⟩ ?_
    exact And.intro (fun c3 => K g2 _ _ _ _ _ J2 (by omega) (by omega)) (fun c3 => absurd (hq c2) c3)
theorem C_622 (hX : HX X mcl_622) (hZ : HZ X s l) (hs : ∀ j : Nat, (j : Int) < l → inR (s j)) (hi : (i : Int) + 6 ≤ l) (hl : l ≤ 3072) (hk : k ≤ 4000) (hn : n ≤ 100000) (J : JV h) (K : GO X i k n) : X 622 [vR 900, vR 1, vR 50, vR 77, vR 78, vI (i : Int), t6, t7, t8] [] (LL MO) h k n := by
  refine hZ _ _ _ _ _ _ _ (fun zc => ?_)
  have e1 : h 900 ((i : Int) + 1).toNat = s (i + 1) := z_at (j := 1) zc hi (by decide)
  refine hX 100 [635] 622 _ _ _ _ _ _ ?_
  refine And.intro (show inR ((i : Int) + 1) from ⟨by omega, by omega⟩) ?_
  refine And.intro (show 0 ≤ (i : Int) + 1 ∧ (i : Int) + 1 < h 901 0 from ⟨by omega, by rw [zc.2]; omega⟩) ?_
  refine bnd_in (show k + 1 ≤ 601024 by omega) (show n + 6 ≤ 7293034 by omega) ?_
  show Ok 288 [vR 1, vI (h 900 ((i : Int) + 1).toNat), vR 77] (LL MO) h _
  rw [e1]
  refine Ok_mono (fun o Λ' g P => ?_) (P_isGraded J)
  obtain ⟨rfl, k1, rfl, H2⟩ := P
  show X 635 [vR 900, vR 1, vR 50, vR 77, vR 78, vI (i : Int), vI k1, t7, t8] [] (LL MO) g _ _
  refine hZ _ _ _ _ _ _ _ (fun zg => ?_)
  have f1 : g 900 ((i : Int) + 1).toNat = s (i + 1) := z_at (j := 1) zg hi (by decide)
  refine hX 100 [2720] 635 _ _ _ _ _ _ ?_
  refine And.intro (show inR ((i : Int) + 1) from ⟨by omega, by omega⟩) ?_
  refine And.intro (show 0 ≤ (i : Int) + 1 ∧ (i : Int) + 1 < g 901 0 from ⟨by omega, by rw [zg.2]; omega⟩) ?_
  refine bnd_in (show k + 1 + 0 ≤ 601024 by omega) (show n + 6 + 0 ≤ 7293034 by omega) ?_
  show Ok 219 [vR 50, vI (g 900 ((i : Int) + 1).toNat)] (LL MO) g _
  rw [f1]
  refine Ok_mono (fun o Λ' g2 Q => ?_) H2
  obtain ⟨rfl, J2, e0, b, rfl, x, rfl, hq⟩ := Q
  refine bnd_in (show k + 1 + 0 + 0 ≤ 601024 by omega) (show n + 6 + 0 + 0 ≤ 7293034 by omega) ?_
  refine Ok_rt m_thrown ?_
  refine And.intro (fun c => ?_) (fun c => absurd e0 c)
  refine And.intro (fun c2 => ?_) (fun c2 => ?_)
  · exact K g2 _ _ _ _ _ J2 (by omega) (by omega)
  · refine And.intro ⟨by decide, by decide⟩ ?_
    refine And.intro (fun d => ?_) (fun d => ?_)
    · exact And.intro (fun c3 => K g2 _ _ _ _ _ J2 (by omega) (by omega)) (fun c3 => absurd ((hq c2).trans (if_pos d)) c3)
    · exact And.intro (fun c3 => K g2 _ _ _ _ _ J2 (by omega) (by omega)) (fun c3 => absurd ((hq c2).trans (if_neg d)) c3)
theorem C_685 (hX : HX X mcl_685) (hZ : HZ X s l) (hs : ∀ j : Nat, (j : Int) < l → inR (s j)) (hi : (i : Int) + 6 ≤ l) (hl : l ≤ 3072) (hk : k ≤ 4000) (hn : n ≤ 100000) (J : JV h) (K : GO X i k n) : X 685 [vR 900, vR 1, vR 50, vR 77, vR 78, vI (i : Int), t6, t7, t8] [] (LL MO) h k n := by
  refine hZ _ _ _ _ _ _ _ (fun zc => ?_)
  have e1 : h 900 ((i : Int) + 1).toNat = s (i + 1) := z_at (j := 1) zc hi (by decide)
  have e2 : h 900 ((i : Int) + 2).toNat = s (i + 2) := z_at (j := 2) zc hi (by decide)
  refine hX 100 [704] 685 _ _ _ _ _ _ ?_
  refine And.intro (show inR ((i : Int) + 1) from ⟨by omega, by omega⟩) ?_
  refine And.intro (show 0 ≤ (i : Int) + 1 ∧ (i : Int) + 1 < h 901 0 from ⟨by omega, by rw [zc.2]; omega⟩) ?_
  refine And.intro (show inR ((i : Int) + 2) from ⟨by omega, by omega⟩) ?_
  refine And.intro (show 0 ≤ (i : Int) + 2 ∧ (i : Int) + 2 < h 901 0 from ⟨by omega, by rw [zc.2]; omega⟩) ?_
  refine bnd_in (show k + 2 ≤ 601024 by omega) (show n + 12 ≤ 7293034 by omega) ?_
  show Ok 289 [vR 1, vI (h 900 ((i : Int) + 1).toNat), vI (h 900 ((i : Int) + 2).toNat), vR 77] (LL MO) h _
  rw [e1, e2]
  refine Ok_mono (fun o Λ' g P => ?_) (P_fits J)
  obtain ⟨rfl, k1, rfl, H2⟩ := P
  show X 704 [vR 900, vR 1, vR 50, vR 77, vR 78, vI (i : Int), vI k1, t7, t8] [] (LL MO) g _ _
  refine hZ _ _ _ _ _ _ _ (fun zg => ?_)
  have f1 : g 900 ((i : Int) + 1).toNat = s (i + 1) := z_at (j := 1) zg hi (by decide)
  have f2 : g 900 ((i : Int) + 2).toNat = s (i + 2) := z_at (j := 2) zg hi (by decide)
  refine hX 100 [2720] 704 _ _ _ _ _ _ ?_
  refine And.intro (show inR ((i : Int) + 1) from ⟨by omega, by omega⟩) ?_
  refine And.intro (show 0 ≤ (i : Int) + 1 ∧ (i : Int) + 1 < g 901 0 from ⟨by omega, by rw [zg.2]; omega⟩) ?_
  refine And.intro (show inR ((i : Int) + 2) from ⟨by omega, by omega⟩) ?_
  refine And.intro (show 0 ≤ (i : Int) + 2 ∧ (i : Int) + 2 < g 901 0 from ⟨by omega, by rw [zg.2]; omega⟩) ?_
  refine bnd_in (show k + 2 + 0 ≤ 601024 by omega) (show n + 12 + 0 ≤ 7293034 by omega) ?_
  show Ok 220 [vR 50, vI (g 900 ((i : Int) + 1).toNat), vI (g 900 ((i : Int) + 2).toNat)] (LL MO) g _
  rw [f1, f2]
  refine Ok_mono (fun o Λ' g2 Q => ?_) H2
  obtain ⟨rfl, J2, e0, b, rfl, x, rfl, hq⟩ := Q
  refine bnd_in (show k + 2 + 0 + 0 ≤ 601024 by omega) (show n + 12 + 0 + 0 ≤ 7293034 by omega) ?_
  refine Ok_rt m_thrown ?_
  refine And.intro (fun c => ?_) (fun c => absurd e0 c)
  refine And.intro (fun c2 => ?_) (fun c2 => ?_)
  · exact K g2 _ _ _ _ _ J2 (by omega) (by omega)
  · refine And.intro ⟨by decide, by decide⟩ ?_
    exact And.intro (fun c3 => K g2 _ _ _ _ _ J2 (by omega) (by omega)) (fun c3 => absurd (hq c2) c3)
theorem C_753 (hX : HX X mcl_753) (hZ : HZ X s l) (hs : ∀ j : Nat, (j : Int) < l → inR (s j)) (hi : (i : Int) + 6 ≤ l) (hl : l ≤ 3072) (hk : k ≤ 4000) (hn : n ≤ 100000) (J : JV h) (K : GO X i k n) : X 753 [vR 900, vR 1, vR 50, vR 77, vR 78, vI (i : Int), t6, t7, t8] [] (LL MO) h k n := by
  refine hZ _ _ _ _ _ _ _ (fun zc => ?_)
  have e1 : h 900 ((i : Int) + 1).toNat = s (i + 1) := z_at (j := 1) zc hi (by decide)
  have e2 : h 900 ((i : Int) + 2).toNat = s (i + 2) := z_at (j := 2) zc hi (by decide)
  refine hX 100 [772] 753 _ _ _ _ _ _ ?_
  refine And.intro (show inR ((i : Int) + 1) from ⟨by omega, by omega⟩) ?_
  refine And.intro (show 0 ≤ (i : Int) + 1 ∧ (i : Int) + 1 < h 901 0 from ⟨by omega, by rw [zc.2]; omega⟩) ?_
  refine And.intro (show inR ((i : Int) + 2) from ⟨by omega, by omega⟩) ?_
  refine And.intro (show 0 ≤ (i : Int) + 2 ∧ (i : Int) + 2 < h 901 0 from ⟨by omega, by rw [zc.2]; omega⟩) ?_
  refine bnd_in (show k + 2 ≤ 601024 by omega) (show n + 12 ≤ 7293034 by omega) ?_
  show Ok 290 [vR 1, vI (h 900 ((i : Int) + 1).toNat), vI (h 900 ((i : Int) + 2).toNat), vR 77] (LL MO) h _
  rw [e1, e2]
  refine Ok_mono (fun o Λ' g P => ?_) (P_chart J)
  obtain ⟨rfl, k1, rfl, H2⟩ := P
  show X 772 [vR 900, vR 1, vR 50, vR 77, vR 78, vI (i : Int), vI k1, t7, t8] [] (LL MO) g _ _
  refine hZ _ _ _ _ _ _ _ (fun zg => ?_)
  have f1 : g 900 ((i : Int) + 1).toNat = s (i + 1) := z_at (j := 1) zg hi (by decide)
  have f2 : g 900 ((i : Int) + 2).toNat = s (i + 2) := z_at (j := 2) zg hi (by decide)
  refine hX 100 [2720] 772 _ _ _ _ _ _ ?_
  refine And.intro (show inR ((i : Int) + 1) from ⟨by omega, by omega⟩) ?_
  refine And.intro (show 0 ≤ (i : Int) + 1 ∧ (i : Int) + 1 < g 901 0 from ⟨by omega, by rw [zg.2]; omega⟩) ?_
  refine And.intro (show inR ((i : Int) + 2) from ⟨by omega, by omega⟩) ?_
  refine And.intro (show 0 ≤ (i : Int) + 2 ∧ (i : Int) + 2 < g 901 0 from ⟨by omega, by rw [zg.2]; omega⟩) ?_
  refine bnd_in (show k + 2 + 0 ≤ 601024 by omega) (show n + 12 + 0 ≤ 7293034 by omega) ?_
  show Ok 221 [vR 50, vI (g 900 ((i : Int) + 1).toNat), vI (g 900 ((i : Int) + 2).toNat)] (LL MO) g _
  rw [f1, f2]
  refine Ok_mono (fun o Λ' g2 Q => ?_) H2
  obtain ⟨rfl, J2, e0, b, rfl, x, rfl, hq⟩ := Q
  refine bnd_in (show k + 2 + 0 + 0 ≤ 601024 by omega) (show n + 12 + 0 + 0 ≤ 7293034 by omega) ?_
  refine Ok_rt m_thrown ?_
  refine And.intro (fun c => ?_) (fun c => absurd e0 c)
  refine And.intro (fun c2 => ?_) (fun c2 => ?_)
  · exact K g2 _ _ _ _ _ J2 (by omega) (by omega)
  · refine And.intro ⟨by decide, by decide⟩ ?_
    exact And.intro (fun c3 => K g2 _ _ _ _ _ J2 (by omega) (by omega)) (fun c3 => absurd (hq c2) c3)
theorem C_821 (hX : HX X mcl_821) (hZ : HZ X s l) (hs : ∀ j : Nat, (j : Int) < l → inR (s j)) (hi : (i : Int) + 6 ≤ l) (hl : l ≤ 3072) (hk : k ≤ 4000) (hn : n ≤ 100000) (J : JV h) (K : GO X i k n) : X 821 [vR 900, vR 1, vR 50, vR 77, vR 78, vI (i : Int), t6, t7, t8] [] (LL MO) h k n := by
  refine hZ _ _ _ _ _ _ _ (fun zc => ?_)
  have e1 : h 900 ((i : Int) + 1).toNat = s (i + 1) := z_at (j := 1) zc hi (by decide)
  have e2 : h 900 ((i : Int) + 2).toNat = s (i + 2) := z_at (j := 2) zc hi (by decide)
  have e3 : h 900 ((i : Int) + 3).toNat = s (i + 3) := z_at (j := 3) zc hi (by decide)
  refine hX 100 [854] 821 _ _ _ _ _ _ ?_
  refine And.intro (show inR ((i : Int) + 1) from ⟨by omega, by omega⟩) ?_
  refine And.intro (show 0 ≤ (i : Int) + 1 ∧ (i : Int) + 1 < h 901 0 from ⟨by omega, by rw [zc.2]; omega⟩) ?_
  refine And.intro (show inR ((i : Int) + 2) from ⟨by omega, by omega⟩) ?_
  refine And.intro (show 0 ≤ (i : Int) + 2 ∧ (i : Int) + 2 < h 901 0 from ⟨by omega, by rw [zc.2]; omega⟩) ?_
  refine And.intro (show inR ((i : Int) + 3) from ⟨by omega, by omega⟩) ?_
  refine And.intro (show 0 ≤ (i : Int) + 3 ∧ (i : Int) + 3 < h 901 0 from ⟨by omega, by rw [zc.2]; omega⟩) ?_
  refine And.intro (fun d1 => ?_) (fun d1 => ?_)
  · refine bnd_in (show k + 2 ≤ 601024 by omega) (show n + 12 ≤ 7293034 by omega) ?_
    show Ok 291 [vR 1, vI (h 900 ((i : Int) + 1).toNat), vI (h 900 ((i : Int) + 2).toNat), vI 0, vR 77] (LL MO) h _
    rw [e1, e2]
    refine Ok_mono (fun o Λ' g P => ?_) (P_chartRow J)
    obtain ⟨rfl, k1, rfl, H2⟩ := P
    show X 854 [vR 900, vR 1, vR 50, vR 77, vR 78, vI (i : Int), vI k1, t7, t8] [] (LL MO) g _ _
    refine hZ _ _ _ _ _ _ _ (fun zg => ?_)
    have f1 : g 900 ((i : Int) + 1).toNat = s (i + 1) := z_at (j := 1) zg hi (by decide)
    have f2 : g 900 ((i : Int) + 2).toNat = s (i + 2) := z_at (j := 2) zg hi (by decide)
    have f3 : g 900 ((i : Int) + 3).toNat = s (i + 3) := z_at (j := 3) zg hi (by decide)
    refine hX 100 [2720] 854 _ _ _ _ _ _ ?_
    refine And.intro (show inR ((i : Int) + 1) from ⟨by omega, by omega⟩) ?_
    refine And.intro (show 0 ≤ (i : Int) + 1 ∧ (i : Int) + 1 < g 901 0 from ⟨by omega, by rw [zg.2]; omega⟩) ?_
    refine And.intro (show inR ((i : Int) + 2) from ⟨by omega, by omega⟩) ?_
    refine And.intro (show 0 ≤ (i : Int) + 2 ∧ (i : Int) + 2 < g 901 0 from ⟨by omega, by rw [zg.2]; omega⟩) ?_
    refine And.intro (show inR ((i : Int) + 3) from ⟨by omega, by omega⟩) ?_
    refine And.intro (show 0 ≤ (i : Int) + 3 ∧ (i : Int) + 3 < g 901 0 from ⟨by omega, by rw [zg.2]; omega⟩) ?_
    refine And.intro (fun d2 => ?_) (fun d2 => absurd ((f3.trans e3.symm).trans d1) d2)
    refine bnd_in (show k + 2 + 0 ≤ 601024 by omega) (show n + 12 + 0 ≤ 7293034 by omega) ?_
    show Ok 222 [vR 50, vI (g 900 ((i : Int) + 1).toNat), vI (g 900 ((i : Int) + 2).toNat), vI 0] (LL MO) g _
    rw [f1, f2]
    refine Ok_mono (fun o Λ' g2 Q => ?_) H2
    obtain ⟨rfl, J2, e0, b, rfl, x, rfl, hq⟩ := Q
    refine bnd_in (show k + 2 + 0 + 0 ≤ 601024 by omega) (show n + 12 + 0 + 0 ≤ 7293034 by omega) ?_
    refine Ok_rt m_thrown ?_
    refine And.intro (fun c => ?_) (fun c => absurd e0 c)
    refine And.intro (fun c2 => ?_) (fun c2 => ?_)
    · exact K g2 _ _ _ _ _ J2 (by omega) (by omega)
    · refine And.intro ⟨by decide, by decide⟩ ?_
      exact And.intro (fun c3 => K g2 _ _ _ _ _ J2 (by omega) (by omega)) (fun c3 => absurd (hq c2) c3)
  · refine bnd_in (show k + 2 ≤ 601024 by omega) (show n + 12 ≤ 7293034 by omega) ?_
    show Ok 291 [vR 1, vI (h 900 ((i : Int) + 1).toNat), vI (h 900 ((i : Int) + 2).toNat), vI 1, vR 77] (LL MO) h _
    rw [e1, e2]
    refine Ok_mono (fun o Λ' g P => ?_) (P_chartRow J)
    obtain ⟨rfl, k1, rfl, H2⟩ := P
    show X 854 [vR 900, vR 1, vR 50, vR 77, vR 78, vI (i : Int), vI k1, t7, t8] [] (LL MO) g _ _
    refine hZ _ _ _ _ _ _ _ (fun zg => ?_)
    have f1 : g 900 ((i : Int) + 1).toNat = s (i + 1) := z_at (j := 1) zg hi (by decide)
    have f2 : g 900 ((i : Int) + 2).toNat = s (i + 2) := z_at (j := 2) zg hi (by decide)
    have f3 : g 900 ((i : Int) + 3).toNat = s (i + 3) := z_at (j := 3) zg hi (by decide)
    refine hX 100 [2720] 854 _ _ _ _ _ _ ?_
    refine And.intro (show inR ((i : Int) + 1) from ⟨by omega, by omega⟩) ?_
    refine And.intro (show 0 ≤ (i : Int) + 1 ∧ (i : Int) + 1 < g 901 0 from ⟨by omega, by rw [zg.2]; omega⟩) ?_
    refine And.intro (show inR ((i : Int) + 2) from ⟨by omega, by omega⟩) ?_
    refine And.intro (show 0 ≤ (i : Int) + 2 ∧ (i : Int) + 2 < g 901 0 from ⟨by omega, by rw [zg.2]; omega⟩) ?_
    refine And.intro (show inR ((i : Int) + 3) from ⟨by omega, by omega⟩) ?_
    refine And.intro (show 0 ≤ (i : Int) + 3 ∧ (i : Int) + 3 < g 901 0 from ⟨by omega, by rw [zg.2]; omega⟩) ?_
    refine And.intro (fun d2 => absurd ((e3.trans f3.symm).trans d2) d1) (fun d2 => ?_)
    refine bnd_in (show k + 2 + 0 ≤ 601024 by omega) (show n + 12 + 0 ≤ 7293034 by omega) ?_
    show Ok 222 [vR 50, vI (g 900 ((i : Int) + 1).toNat), vI (g 900 ((i : Int) + 2).toNat), vI 1] (LL MO) g _
    rw [f1, f2]
    refine Ok_mono (fun o Λ' g2 Q => ?_) H2
    obtain ⟨rfl, J2, e0, b, rfl, x, rfl, hq⟩ := Q
    refine bnd_in (show k + 2 + 0 + 0 ≤ 601024 by omega) (show n + 12 + 0 + 0 ≤ 7293034 by omega) ?_
    refine Ok_rt m_thrown ?_
    refine And.intro (fun c => ?_) (fun c => absurd e0 c)
    refine And.intro (fun c2 => ?_) (fun c2 => ?_)
    · exact K g2 _ _ _ _ _ J2 (by omega) (by omega)
    · refine And.intro ⟨by decide, by decide⟩ ?_
      exact And.intro (fun c3 => K g2 _ _ _ _ _ J2 (by omega) (by omega)) (fun c3 => absurd (hq c2) c3)
theorem C_917 (hX : HX X mcl_917) (hZ : HZ X s l) (hs : ∀ j : Nat, (j : Int) < l → inR (s j)) (hi : (i : Int) + 6 ≤ l) (hl : l ≤ 3072) (hk : k ≤ 4000) (hn : n ≤ 100000) (J : JV h) (K : GO X i k n) : X 917 [vR 900, vR 1, vR 50, vR 77, vR 78, vI (i : Int), t6, t7, t8] [] (LL MO) h k n := by
  refine hZ _ _ _ _ _ _ _ (fun zc => ?_)
  have e1 : h 900 ((i : Int) + 1).toNat = s (i + 1) := z_at (j := 1) zc hi (by decide)
  have e2 : h 900 ((i : Int) + 2).toNat = s (i + 2) := z_at (j := 2) zc hi (by decide)
  have e3 : h 900 ((i : Int) + 3).toNat = s (i + 3) := z_at (j := 3) zc hi (by decide)
  refine hX 100 [942] 917 _ _ _ _ _ _ ?_
  refine And.intro (show inR ((i : Int) + 1) from ⟨by omega, by omega⟩) ?_
  refine And.intro (show 0 ≤ (i : Int) + 1 ∧ (i : Int) + 1 < h 901 0 from ⟨by omega, by rw [zc.2]; omega⟩) ?_
  refine And.intro (show inR ((i : Int) + 2) from ⟨by omega, by omega⟩) ?_
  refine And.intro (show 0 ≤ (i : Int) + 2 ∧ (i : Int) + 2 < h 901 0 from ⟨by omega, by rw [zc.2]; omega⟩) ?_
  refine And.intro (show inR ((i : Int) + 3) from ⟨by omega, by omega⟩) ?_
  refine And.intro (show 0 ≤ (i : Int) + 3 ∧ (i : Int) + 3 < h 901 0 from ⟨by omega, by rw [zc.2]; omega⟩) ?_
  refine bnd_in (show k + 3 ≤ 601024 by omega) (show n + 18 ≤ 7293034 by omega) ?_
  show Ok 292 [vR 1, vI (h 900 ((i : Int) + 1).toNat), vI (h 900 ((i : Int) + 2).toNat), vI (h 900 ((i : Int) + 3).toNat), vR 77] (LL MO) h _
  rw [e1, e2, e3]
  refine Ok_mono (fun o Λ' g P => ?_) (P_part J)
  obtain ⟨rfl, k1, rfl, H2⟩ := P
  show X 942 [vR 900, vR 1, vR 50, vR 77, vR 78, vI (i : Int), vI k1, t7, t8] [] (LL MO) g _ _
  refine hZ _ _ _ _ _ _ _ (fun zg => ?_)
  have f1 : g 900 ((i : Int) + 1).toNat = s (i + 1) := z_at (j := 1) zg hi (by decide)
  have f2 : g 900 ((i : Int) + 2).toNat = s (i + 2) := z_at (j := 2) zg hi (by decide)
  have f3 : g 900 ((i : Int) + 3).toNat = s (i + 3) := z_at (j := 3) zg hi (by decide)
  refine hX 100 [2720] 942 _ _ _ _ _ _ ?_
  refine And.intro (show inR ((i : Int) + 1) from ⟨by omega, by omega⟩) ?_
  refine And.intro (show 0 ≤ (i : Int) + 1 ∧ (i : Int) + 1 < g 901 0 from ⟨by omega, by rw [zg.2]; omega⟩) ?_
  refine And.intro (show inR ((i : Int) + 2) from ⟨by omega, by omega⟩) ?_
  refine And.intro (show 0 ≤ (i : Int) + 2 ∧ (i : Int) + 2 < g 901 0 from ⟨by omega, by rw [zg.2]; omega⟩) ?_
  refine And.intro (show inR ((i : Int) + 3) from ⟨by omega, by omega⟩) ?_
  refine And.intro (show 0 ≤ (i : Int) + 3 ∧ (i : Int) + 3 < g 901 0 from ⟨by omega, by rw [zg.2]; omega⟩) ?_
  refine bnd_in (show k + 3 + 0 ≤ 601024 by omega) (show n + 18 + 0 ≤ 7293034 by omega) ?_
  show Ok 224 [vR 50, vI (g 900 ((i : Int) + 1).toNat), vI (g 900 ((i : Int) + 2).toNat), vI (g 900 ((i : Int) + 3).toNat)] (LL MO) g _
  rw [f1, f2, f3]
  refine Ok_mono (fun o Λ' g2 Q => ?_) H2
  obtain ⟨rfl, J2, e0, b, rfl, x, rfl, hq⟩ := Q
  refine bnd_in (show k + 3 + 0 + 0 ≤ 601024 by omega) (show n + 18 + 0 + 0 ≤ 7293034 by omega) ?_
  refine Ok_rt m_thrown ?_
  refine And.intro (fun c => ?_) (fun c => absurd e0 c)
  refine And.intro (fun c2 => ?_) (fun c2 => ?_)
  · exact K g2 _ _ _ _ _ J2 (by omega) (by omega)
  · refine And.intro ⟨by decide, by decide⟩ ?_
    exact And.intro (fun c3 => K g2 _ _ _ _ _ J2 (by omega) (by omega)) (fun c3 => absurd (hq c2) c3)
theorem C_997 (hX : HX X mcl_997) (hZ : HZ X s l) (hs : ∀ j : Nat, (j : Int) < l → inR (s j)) (hi : (i : Int) + 6 ≤ l) (hl : l ≤ 3072) (hk : k ≤ 4000) (hn : n ≤ 100000) (J : JV h) (K : GO X i k n) : X 997 [vR 900, vR 1, vR 50, vR 77, vR 78, vI (i : Int), t6, t7, t8] [] (LL MO) h k n := by
  refine hZ _ _ _ _ _ _ _ (fun zc => ?_)
  have e1 : h 900 ((i : Int) + 1).toNat = s (i + 1) := z_at (j := 1) zc hi (by decide)
  refine hX 100 [1010] 997 _ _ _ _ _ _ ?_
  refine And.intro (show inR ((i : Int) + 1) from ⟨by omega, by omega⟩) ?_
  refine And.intro (show 0 ≤ (i : Int) + 1 ∧ (i : Int) + 1 < h 901 0 from ⟨by omega, by rw [zc.2]; omega⟩) ?_
  refine bnd_in (show k + 1 ≤ 601024 by omega) (show n + 6 ≤ 7293034 by omega) ?_
  show Ok 293 [vR 1, vI (h 900 ((i : Int) + 1).toNat), vR 77] (LL MO) h _
  rw [e1]
  refine Ok_mono (fun o Λ' g P => ?_) (P_parts J)
  obtain ⟨rfl, k1, rfl, H2⟩ := P
  show X 1010 [vR 900, vR 1, vR 50, vR 77, vR 78, vI (i : Int), vI k1, t7, t8] [] (LL MO) g _ _
  refine hZ _ _ _ _ _ _ _ (fun zg => ?_)
  have f1 : g 900 ((i : Int) + 1).toNat = s (i + 1) := z_at (j := 1) zg hi (by decide)
  refine hX 100 [2720] 1010 _ _ _ _ _ _ ?_
  refine And.intro (show inR ((i : Int) + 1) from ⟨by omega, by omega⟩) ?_
  refine And.intro (show 0 ≤ (i : Int) + 1 ∧ (i : Int) + 1 < g 901 0 from ⟨by omega, by rw [zg.2]; omega⟩) ?_
  refine bnd_in (show k + 1 + 0 ≤ 601024 by omega) (show n + 6 + 0 ≤ 7293034 by omega) ?_
  show Ok 225 [vR 50, vI (g 900 ((i : Int) + 1).toNat)] (LL MO) g _
  rw [f1]
  refine Ok_mono (fun o Λ' g2 Q => ?_) H2
  obtain ⟨rfl, J2, e0, b, rfl, x, rfl, hq⟩ := Q
  refine bnd_in (show k + 1 + 0 + 0 ≤ 601024 by omega) (show n + 6 + 0 + 0 ≤ 7293034 by omega) ?_
  refine Ok_rt m_thrown ?_
  refine And.intro (fun c => ?_) (fun c => absurd e0 c)
  refine And.intro (fun c2 => ?_) (fun c2 => ?_)
  · exact K g2 _ _ _ _ _ J2 (by omega) (by omega)
  · refine And.intro ⟨by decide, by decide⟩ ?_
    exact And.intro (fun c3 => K g2 _ _ _ _ _ J2 (by omega) (by omega)) (fun c3 => absurd (hq c2) c3)
theorem C_1053 (hX : HX X mcl_1053) (hZ : HZ X s l) (hs : ∀ j : Nat, (j : Int) < l → inR (s j)) (hi : (i : Int) + 6 ≤ l) (hl : l ≤ 3072) (hk : k ≤ 4000) (hn : n ≤ 100000) (J : JV h) (K : GO X i k n) : X 1053 [vR 900, vR 1, vR 50, vR 77, vR 78, vI (i : Int), t6, t7, t8] [] (LL MO) h k n := by
  refine hZ _ _ _ _ _ _ _ (fun zc => ?_)
  have e1 : h 900 ((i : Int) + 1).toNat = s (i + 1) := z_at (j := 1) zc hi (by decide)
  have e2 : h 900 ((i : Int) + 2).toNat = s (i + 2) := z_at (j := 2) zc hi (by decide)
  refine hX 100 [1072] 1053 _ _ _ _ _ _ ?_
  refine And.intro (show inR ((i : Int) + 1) from ⟨by omega, by omega⟩) ?_
  refine And.intro (show 0 ≤ (i : Int) + 1 ∧ (i : Int) + 1 < h 901 0 from ⟨by omega, by rw [zc.2]; omega⟩) ?_
  refine And.intro (show inR ((i : Int) + 2) from ⟨by omega, by omega⟩) ?_
  refine And.intro (show 0 ≤ (i : Int) + 2 ∧ (i : Int) + 2 < h 901 0 from ⟨by omega, by rw [zc.2]; omega⟩) ?_
  refine bnd_in (show k + 2 ≤ 601024 by omega) (show n + 12 ≤ 7293034 by omega) ?_
  show Ok 294 [vR 1, vI (h 900 ((i : Int) + 1).toNat), vI (h 900 ((i : Int) + 2).toNat), vR 77] (LL MO) h _
  rw [e1, e2]
  refine Ok_mono (fun o Λ' g P => ?_) (P_failure J)
  obtain ⟨rfl, k1, rfl, H2⟩ := P
  show X 1072 [vR 900, vR 1, vR 50, vR 77, vR 78, vI (i : Int), vI k1, t7, t8] [] (LL MO) g _ _
  refine hZ _ _ _ _ _ _ _ (fun zg => ?_)
  have f1 : g 900 ((i : Int) + 1).toNat = s (i + 1) := z_at (j := 1) zg hi (by decide)
  have f2 : g 900 ((i : Int) + 2).toNat = s (i + 2) := z_at (j := 2) zg hi (by decide)
  refine hX 100 [2720] 1072 _ _ _ _ _ _ ?_
  refine And.intro (show inR ((i : Int) + 1) from ⟨by omega, by omega⟩) ?_
  refine And.intro (show 0 ≤ (i : Int) + 1 ∧ (i : Int) + 1 < g 901 0 from ⟨by omega, by rw [zg.2]; omega⟩) ?_
  refine And.intro (show inR ((i : Int) + 2) from ⟨by omega, by omega⟩) ?_
  refine And.intro (show 0 ≤ (i : Int) + 2 ∧ (i : Int) + 2 < g 901 0 from ⟨by omega, by rw [zg.2]; omega⟩) ?_
  refine bnd_in (show k + 2 + 0 ≤ 601024 by omega) (show n + 12 + 0 ≤ 7293034 by omega) ?_
  show Ok 235 [vR 50, vI (g 900 ((i : Int) + 1).toNat), vI (g 900 ((i : Int) + 2).toNat)] (LL MO) g _
  rw [f1, f2]
  refine Ok_mono (fun o Λ' g2 Q => ?_) H2
  obtain ⟨rfl, J2, e0, b, rfl, x, rfl, hq⟩ := Q
  refine bnd_in (show k + 2 + 0 + 0 ≤ 601024 by omega) (show n + 12 + 0 + 0 ≤ 7293034 by omega) ?_
  refine Ok_rt m_thrown ?_
  refine And.intro (fun c => ?_) (fun c => absurd e0 c)
  refine And.intro (fun c2 => ?_) (fun c2 => ?_)
  · exact K g2 _ _ _ _ _ J2 (by omega) (by omega)
  · refine And.intro ⟨by decide, by decide⟩ ?_
    exact And.intro (fun c3 => K g2 _ _ _ _ _ J2 (by omega) (by omega)) (fun c3 => absurd (hq c2) c3)
theorem C_1121 (hX : HX X mcl_1121) (hZ : HZ X s l) (hs : ∀ j : Nat, (j : Int) < l → inR (s j)) (hi : (i : Int) + 6 ≤ l) (hl : l ≤ 3072) (hk : k ≤ 4000) (hn : n ≤ 100000) (J : JV h) (K : GO X i k n) : X 1121 [vR 900, vR 1, vR 50, vR 77, vR 78, vI (i : Int), t6, t7, t8] [] (LL MO) h k n := by
  refine hZ _ _ _ _ _ _ _ (fun zc => ?_)
  have e1 : h 900 ((i : Int) + 1).toNat = s (i + 1) := z_at (j := 1) zc hi (by decide)
  have e2 : h 900 ((i : Int) + 2).toNat = s (i + 2) := z_at (j := 2) zc hi (by decide)
  refine hX 100 [1140] 1121 _ _ _ _ _ _ ?_
  refine And.intro (show inR ((i : Int) + 1) from ⟨by omega, by omega⟩) ?_
  refine And.intro (show 0 ≤ (i : Int) + 1 ∧ (i : Int) + 1 < h 901 0 from ⟨by omega, by rw [zc.2]; omega⟩) ?_
  refine And.intro (show inR ((i : Int) + 2) from ⟨by omega, by omega⟩) ?_
  refine And.intro (show 0 ≤ (i : Int) + 2 ∧ (i : Int) + 2 < h 901 0 from ⟨by omega, by rw [zc.2]; omega⟩) ?_
  refine bnd_in (show k + 2 ≤ 601024 by omega) (show n + 12 ≤ 7293034 by omega) ?_
  show Ok 295 [vR 1, vI (h 900 ((i : Int) + 1).toNat), vI (h 900 ((i : Int) + 2).toNat), vR 77] (LL MO) h _
  rw [e1, e2]
  refine Ok_mono (fun o Λ' g P => ?_) (P_rows J)
  obtain ⟨rfl, k1, rfl, H2⟩ := P
  show X 1140 [vR 900, vR 1, vR 50, vR 77, vR 78, vI (i : Int), vI k1, t7, t8] [] (LL MO) g _ _
  refine hZ _ _ _ _ _ _ _ (fun zg => ?_)
  have f1 : g 900 ((i : Int) + 1).toNat = s (i + 1) := z_at (j := 1) zg hi (by decide)
  have f2 : g 900 ((i : Int) + 2).toNat = s (i + 2) := z_at (j := 2) zg hi (by decide)
  refine hX 100 [2720] 1140 _ _ _ _ _ _ ?_
  refine And.intro (show inR ((i : Int) + 1) from ⟨by omega, by omega⟩) ?_
  refine And.intro (show 0 ≤ (i : Int) + 1 ∧ (i : Int) + 1 < g 901 0 from ⟨by omega, by rw [zg.2]; omega⟩) ?_
  refine And.intro (show inR ((i : Int) + 2) from ⟨by omega, by omega⟩) ?_
  refine And.intro (show 0 ≤ (i : Int) + 2 ∧ (i : Int) + 2 < g 901 0 from ⟨by omega, by rw [zg.2]; omega⟩) ?_
  refine bnd_in (show k + 2 + 0 ≤ 601024 by omega) (show n + 12 + 0 ≤ 7293034 by omega) ?_
  show Ok 236 [vR 50, vI (g 900 ((i : Int) + 1).toNat), vI (g 900 ((i : Int) + 2).toNat)] (LL MO) g _
  rw [f1, f2]
  refine Ok_mono (fun o Λ' g2 Q => ?_) H2
  obtain ⟨rfl, J2, e0, b, rfl, x, rfl, hq⟩ := Q
  refine bnd_in (show k + 2 + 0 + 0 ≤ 601024 by omega) (show n + 12 + 0 + 0 ≤ 7293034 by omega) ?_
  refine Ok_rt m_thrown ?_
  refine And.intro (fun c => ?_) (fun c => absurd e0 c)
  refine And.intro (fun c2 => ?_) (fun c2 => ?_)
  · exact K g2 _ _ _ _ _ J2 (by omega) (by omega)
  · refine And.intro ⟨by decide, by decide⟩ ?_
    exact And.intro (fun c3 => K g2 _ _ _ _ _ J2 (by omega) (by omega)) (fun c3 => absurd (hq c2) c3)
theorem C_1189 (hX : HX X mcl_1189) (hZ : HZ X s l) (hs : ∀ j : Nat, (j : Int) < l → inR (s j)) (hi : (i : Int) + 6 ≤ l) (hl : l ≤ 3072) (hk : k ≤ 4000) (hn : n ≤ 100000) (J : JV h) (K : GO X i k n) : X 1189 [vR 900, vR 1, vR 50, vR 77, vR 78, vI (i : Int), t6, t7, t8] [] (LL MO) h k n := by
  refine hZ _ _ _ _ _ _ _ (fun zc => ?_)
  have e1 : h 900 ((i : Int) + 1).toNat = s (i + 1) := z_at (j := 1) zc hi (by decide)
  have e2 : h 900 ((i : Int) + 2).toNat = s (i + 2) := z_at (j := 2) zc hi (by decide)
  have e3 : h 900 ((i : Int) + 3).toNat = s (i + 3) := z_at (j := 3) zc hi (by decide)
  refine hX 100 [1214] 1189 _ _ _ _ _ _ ?_
  refine And.intro (show inR ((i : Int) + 1) from ⟨by omega, by omega⟩) ?_
  refine And.intro (show 0 ≤ (i : Int) + 1 ∧ (i : Int) + 1 < h 901 0 from ⟨by omega, by rw [zc.2]; omega⟩) ?_
  refine And.intro (show inR ((i : Int) + 2) from ⟨by omega, by omega⟩) ?_
  refine And.intro (show 0 ≤ (i : Int) + 2 ∧ (i : Int) + 2 < h 901 0 from ⟨by omega, by rw [zc.2]; omega⟩) ?_
  refine And.intro (show inR ((i : Int) + 3) from ⟨by omega, by omega⟩) ?_
  refine And.intro (show 0 ≤ (i : Int) + 3 ∧ (i : Int) + 3 < h 901 0 from ⟨by omega, by rw [zc.2]; omega⟩) ?_
  refine bnd_in (show k + 4 ≤ 601024 by omega) (show n + 24 ≤ 7293034 by omega) ?_
  show Ok 296 [vR 1, vI (h 900 ((i : Int) + 1).toNat), vI (h 900 ((i : Int) + 2).toNat), vI (h 900 ((i : Int) + 3).toNat), vR 77] (LL MO) h _
  rw [e1, e2, e3]
  refine Ok_mono (fun o Λ' g P => ?_) (P_partRows J)
  obtain ⟨rfl, k1, rfl, H2⟩ := P
  show X 1214 [vR 900, vR 1, vR 50, vR 77, vR 78, vI (i : Int), vI k1, t7, t8] [] (LL MO) g _ _
  refine hZ _ _ _ _ _ _ _ (fun zg => ?_)
  have f1 : g 900 ((i : Int) + 1).toNat = s (i + 1) := z_at (j := 1) zg hi (by decide)
  have f2 : g 900 ((i : Int) + 2).toNat = s (i + 2) := z_at (j := 2) zg hi (by decide)
  have f3 : g 900 ((i : Int) + 3).toNat = s (i + 3) := z_at (j := 3) zg hi (by decide)
  refine hX 100 [2720] 1214 _ _ _ _ _ _ ?_
  refine And.intro (show inR ((i : Int) + 1) from ⟨by omega, by omega⟩) ?_
  refine And.intro (show 0 ≤ (i : Int) + 1 ∧ (i : Int) + 1 < g 901 0 from ⟨by omega, by rw [zg.2]; omega⟩) ?_
  refine And.intro (show inR ((i : Int) + 2) from ⟨by omega, by omega⟩) ?_
  refine And.intro (show 0 ≤ (i : Int) + 2 ∧ (i : Int) + 2 < g 901 0 from ⟨by omega, by rw [zg.2]; omega⟩) ?_
  refine And.intro (show inR ((i : Int) + 3) from ⟨by omega, by omega⟩) ?_
  refine And.intro (show 0 ≤ (i : Int) + 3 ∧ (i : Int) + 3 < g 901 0 from ⟨by omega, by rw [zg.2]; omega⟩) ?_
  refine bnd_in (show k + 4 + 0 ≤ 601024 by omega) (show n + 24 + 0 ≤ 7293034 by omega) ?_
  show Ok 238 [vR 50, vI (g 900 ((i : Int) + 1).toNat), vI (g 900 ((i : Int) + 2).toNat), vI (g 900 ((i : Int) + 3).toNat)] (LL MO) g _
  rw [f1, f2, f3]
  refine Ok_mono (fun o Λ' g2 Q => ?_) H2
  obtain ⟨rfl, J2, e0, b, rfl, x, rfl, hq⟩ := Q
  refine bnd_in (show k + 4 + 0 + 0 ≤ 601024 by omega) (show n + 24 + 0 + 0 ≤ 7293034 by omega) ?_
  refine Ok_rt m_thrown ?_
  refine And.intro (fun c => ?_) (fun c => absurd e0 c)
  refine And.intro (fun c2 => ?_) (fun c2 => ?_)
  · exact K g2 _ _ _ _ _ J2 (by omega) (by omega)
  · refine And.intro ⟨by decide, by decide⟩ ?_
    exact And.intro (fun c3 => K g2 _ _ _ _ _ J2 (by omega) (by omega)) (fun c3 => absurd (hq c2) c3)
theorem C_1269 (hX : HX X mcl_1269) (hZ : HZ X s l) (hs : ∀ j : Nat, (j : Int) < l → inR (s j)) (hi : (i : Int) + 6 ≤ l) (hl : l ≤ 3072) (hk : k ≤ 4000) (hn : n ≤ 100000) (J : JV h) (K : GO X i k n) : X 1269 [vR 900, vR 1, vR 50, vR 77, vR 78, vI (i : Int), t6, t7, t8] [] (LL MO) h k n := by
  refine hZ _ _ _ _ _ _ _ (fun zc => ?_)
  have e1 : h 900 ((i : Int) + 1).toNat = s (i + 1) := z_at (j := 1) zc hi (by decide)
  have e2 : h 900 ((i : Int) + 2).toNat = s (i + 2) := z_at (j := 2) zc hi (by decide)
  have e3 : h 900 ((i : Int) + 3).toNat = s (i + 3) := z_at (j := 3) zc hi (by decide)
  refine hX 100 [1294] 1269 _ _ _ _ _ _ ?_
  refine And.intro (show inR ((i : Int) + 1) from ⟨by omega, by omega⟩) ?_
  refine And.intro (show 0 ≤ (i : Int) + 1 ∧ (i : Int) + 1 < h 901 0 from ⟨by omega, by rw [zc.2]; omega⟩) ?_
  refine And.intro (show inR ((i : Int) + 2) from ⟨by omega, by omega⟩) ?_
  refine And.intro (show 0 ≤ (i : Int) + 2 ∧ (i : Int) + 2 < h 901 0 from ⟨by omega, by rw [zc.2]; omega⟩) ?_
  refine And.intro (show inR ((i : Int) + 3) from ⟨by omega, by omega⟩) ?_
  refine And.intro (show 0 ≤ (i : Int) + 3 ∧ (i : Int) + 3 < h 901 0 from ⟨by omega, by rw [zc.2]; omega⟩) ?_
  refine bnd_in (show k + 3 ≤ 601024 by omega) (show n + 18 ≤ 7293034 by omega) ?_
  show Ok 297 [vR 1, vI (h 900 ((i : Int) + 1).toNat), vI (h 900 ((i : Int) + 2).toNat), vI (h 900 ((i : Int) + 3).toNat), vR 77] (LL MO) h _
  rw [e1, e2, e3]
  refine Ok_mono (fun o Λ' g P => ?_) (P_stitches J)
  obtain ⟨rfl, k1, rfl, H2⟩ := P
  show X 1294 [vR 900, vR 1, vR 50, vR 77, vR 78, vI (i : Int), vI k1, t7, t8] [] (LL MO) g _ _
  refine hZ _ _ _ _ _ _ _ (fun zg => ?_)
  have f1 : g 900 ((i : Int) + 1).toNat = s (i + 1) := z_at (j := 1) zg hi (by decide)
  have f2 : g 900 ((i : Int) + 2).toNat = s (i + 2) := z_at (j := 2) zg hi (by decide)
  have f3 : g 900 ((i : Int) + 3).toNat = s (i + 3) := z_at (j := 3) zg hi (by decide)
  refine hX 100 [2720] 1294 _ _ _ _ _ _ ?_
  refine And.intro (show inR ((i : Int) + 1) from ⟨by omega, by omega⟩) ?_
  refine And.intro (show 0 ≤ (i : Int) + 1 ∧ (i : Int) + 1 < g 901 0 from ⟨by omega, by rw [zg.2]; omega⟩) ?_
  refine And.intro (show inR ((i : Int) + 2) from ⟨by omega, by omega⟩) ?_
  refine And.intro (show 0 ≤ (i : Int) + 2 ∧ (i : Int) + 2 < g 901 0 from ⟨by omega, by rw [zg.2]; omega⟩) ?_
  refine And.intro (show inR ((i : Int) + 3) from ⟨by omega, by omega⟩) ?_
  refine And.intro (show 0 ≤ (i : Int) + 3 ∧ (i : Int) + 3 < g 901 0 from ⟨by omega, by rw [zg.2]; omega⟩) ?_
  refine bnd_in (show k + 3 + 0 ≤ 601024 by omega) (show n + 18 + 0 ≤ 7293034 by omega) ?_
  show Ok 240 [vR 50, vI (g 900 ((i : Int) + 1).toNat), vI (g 900 ((i : Int) + 2).toNat), vI (g 900 ((i : Int) + 3).toNat)] (LL MO) g _
  rw [f1, f2, f3]
  refine Ok_mono (fun o Λ' g2 Q => ?_) H2
  obtain ⟨rfl, J2, e0, b, rfl, x, rfl, hq⟩ := Q
  refine bnd_in (show k + 3 + 0 + 0 ≤ 601024 by omega) (show n + 18 + 0 + 0 ≤ 7293034 by omega) ?_
  refine Ok_rt m_thrown ?_
  refine And.intro (fun c => ?_) (fun c => absurd e0 c)
  refine And.intro (fun c2 => ?_) (fun c2 => ?_)
  · exact K g2 _ _ _ _ _ J2 (by omega) (by omega)
  · refine And.intro ⟨by decide, by decide⟩ ?_
    exact And.intro (fun c3 => K g2 _ _ _ _ _ J2 (by omega) (by omega)) (fun c3 => absurd (hq c2) c3)
theorem C_1349 (hX : HX X mcl_1349) (hZ : HZ X s l) (hs : ∀ j : Nat, (j : Int) < l → inR (s j)) (hi : (i : Int) + 6 ≤ l) (hl : l ≤ 3072) (hk : k ≤ 4000) (hn : n ≤ 100000) (J : JV h) (K : GO X i k n) : X 1349 [vR 900, vR 1, vR 50, vR 77, vR 78, vI (i : Int), t6, t7, t8] [] (LL MO) h k n := by
  refine hZ _ _ _ _ _ _ _ (fun zc => ?_)
  have e1 : h 900 ((i : Int) + 1).toNat = s (i + 1) := z_at (j := 1) zc hi (by decide)
  have e2 : h 900 ((i : Int) + 2).toNat = s (i + 2) := z_at (j := 2) zc hi (by decide)
  have e3 : h 900 ((i : Int) + 3).toNat = s (i + 3) := z_at (j := 3) zc hi (by decide)
  refine hX 100 [1374] 1349 _ _ _ _ _ _ ?_
  refine And.intro (show inR ((i : Int) + 1) from ⟨by omega, by omega⟩) ?_
  refine And.intro (show 0 ≤ (i : Int) + 1 ∧ (i : Int) + 1 < h 901 0 from ⟨by omega, by rw [zc.2]; omega⟩) ?_
  refine And.intro (show inR ((i : Int) + 2) from ⟨by omega, by omega⟩) ?_
  refine And.intro (show 0 ≤ (i : Int) + 2 ∧ (i : Int) + 2 < h 901 0 from ⟨by omega, by rw [zc.2]; omega⟩) ?_
  refine And.intro (show inR ((i : Int) + 3) from ⟨by omega, by omega⟩) ?_
  refine And.intro (show 0 ≤ (i : Int) + 3 ∧ (i : Int) + 3 < h 901 0 from ⟨by omega, by rw [zc.2]; omega⟩) ?_
  refine bnd_in (show k + 3 ≤ 601024 by omega) (show n + 18 ≤ 7293034 by omega) ?_
  show Ok 298 [vR 1, vI (h 900 ((i : Int) + 1).toNat), vI (h 900 ((i : Int) + 2).toNat), vI (h 900 ((i : Int) + 3).toNat), vR 77] (LL MO) h _
  rw [e1, e2, e3]
  refine Ok_mono (fun o Λ' g P => ?_) (P_partAt J)
  obtain ⟨rfl, k1, rfl, H2⟩ := P
  show X 1374 [vR 900, vR 1, vR 50, vR 77, vR 78, vI (i : Int), vI k1, t7, t8] [] (LL MO) g _ _
  refine hZ _ _ _ _ _ _ _ (fun zg => ?_)
  have f1 : g 900 ((i : Int) + 1).toNat = s (i + 1) := z_at (j := 1) zg hi (by decide)
  have f2 : g 900 ((i : Int) + 2).toNat = s (i + 2) := z_at (j := 2) zg hi (by decide)
  have f3 : g 900 ((i : Int) + 3).toNat = s (i + 3) := z_at (j := 3) zg hi (by decide)
  refine hX 100 [2720] 1374 _ _ _ _ _ _ ?_
  refine And.intro (show inR ((i : Int) + 1) from ⟨by omega, by omega⟩) ?_
  refine And.intro (show 0 ≤ (i : Int) + 1 ∧ (i : Int) + 1 < g 901 0 from ⟨by omega, by rw [zg.2]; omega⟩) ?_
  refine And.intro (show inR ((i : Int) + 2) from ⟨by omega, by omega⟩) ?_
  refine And.intro (show 0 ≤ (i : Int) + 2 ∧ (i : Int) + 2 < g 901 0 from ⟨by omega, by rw [zg.2]; omega⟩) ?_
  refine And.intro (show inR ((i : Int) + 3) from ⟨by omega, by omega⟩) ?_
  refine And.intro (show 0 ≤ (i : Int) + 3 ∧ (i : Int) + 3 < g 901 0 from ⟨by omega, by rw [zg.2]; omega⟩) ?_
  refine bnd_in (show k + 3 + 0 ≤ 601024 by omega) (show n + 18 + 0 ≤ 7293034 by omega) ?_
  show Ok 241 [vR 50, vI (g 900 ((i : Int) + 1).toNat), vI (g 900 ((i : Int) + 2).toNat), vI (g 900 ((i : Int) + 3).toNat)] (LL MO) g _
  rw [f1, f2, f3]
  refine Ok_mono (fun o Λ' g2 Q => ?_) H2
  obtain ⟨rfl, J2, e0, b, rfl, x, rfl, hq⟩ := Q
  refine bnd_in (show k + 3 + 0 + 0 ≤ 601024 by omega) (show n + 18 + 0 + 0 ≤ 7293034 by omega) ?_
  refine Ok_rt m_thrown ?_
  refine And.intro (fun c => ?_) (fun c => absurd e0 c)
  refine And.intro (fun c2 => ?_) (fun c2 => ?_)
  · exact K g2 _ _ _ _ _ J2 (by omega) (by omega)
  · refine And.intro ⟨by decide, by decide⟩ ?_
    exact And.intro (fun c3 => K g2 _ _ _ _ _ J2 (by omega) (by omega)) (fun c3 => absurd (hq c2) c3)
theorem C_1429 (hX : HX X mcl_1429) (hZ : HZ X s l) (hs : ∀ j : Nat, (j : Int) < l → inR (s j)) (hi : (i : Int) + 6 ≤ l) (hl : l ≤ 3072) (hk : k ≤ 4000) (hn : n ≤ 100000) (J : JV h) (K : GO X i k n) : X 1429 [vR 900, vR 1, vR 50, vR 77, vR 78, vI (i : Int), t6, t7, t8] [] (LL MO) h k n := by
  refine hZ _ _ _ _ _ _ _ (fun zc => ?_)
  have e1 : h 900 ((i : Int) + 1).toNat = s (i + 1) := z_at (j := 1) zc hi (by decide)
  have e2 : h 900 ((i : Int) + 2).toNat = s (i + 2) := z_at (j := 2) zc hi (by decide)
  have e3 : h 900 ((i : Int) + 3).toNat = s (i + 3) := z_at (j := 3) zc hi (by decide)
  refine hX 100 [1462] 1429 _ _ _ _ _ _ ?_
  refine And.intro (show inR ((i : Int) + 1) from ⟨by omega, by omega⟩) ?_
  refine And.intro (show 0 ≤ (i : Int) + 1 ∧ (i : Int) + 1 < h 901 0 from ⟨by omega, by rw [zc.2]; omega⟩) ?_
  refine And.intro (show inR ((i : Int) + 2) from ⟨by omega, by omega⟩) ?_
  refine And.intro (show 0 ≤ (i : Int) + 2 ∧ (i : Int) + 2 < h 901 0 from ⟨by omega, by rw [zc.2]; omega⟩) ?_
  refine And.intro (show inR ((i : Int) + 3) from ⟨by omega, by omega⟩) ?_
  refine And.intro (show 0 ≤ (i : Int) + 3 ∧ (i : Int) + 3 < h 901 0 from ⟨by omega, by rw [zc.2]; omega⟩) ?_
  refine And.intro (fun d1 => ?_) (fun d1 => ?_)
  · refine bnd_in (show k + 2 ≤ 601024 by omega) (show n + 12 ≤ 7293034 by omega) ?_
    show Ok 299 [vR 1, vI (h 900 ((i : Int) + 1).toNat), vI (h 900 ((i : Int) + 2).toNat), vI 0, vR 77] (LL MO) h _
    rw [e1, e2]
    refine Ok_mono (fun o Λ' g P => ?_) (P_extreme J)
    obtain ⟨rfl, k1, rfl, H2⟩ := P
    show X 1462 [vR 900, vR 1, vR 50, vR 77, vR 78, vI (i : Int), vI k1, t7, t8] [] (LL MO) g _ _
    refine hZ _ _ _ _ _ _ _ (fun zg => ?_)
    have f1 : g 900 ((i : Int) + 1).toNat = s (i + 1) := z_at (j := 1) zg hi (by decide)
    have f2 : g 900 ((i : Int) + 2).toNat = s (i + 2) := z_at (j := 2) zg hi (by decide)
    have f3 : g 900 ((i : Int) + 3).toNat = s (i + 3) := z_at (j := 3) zg hi (by decide)
    refine hX 100 [2720] 1462 _ _ _ _ _ _ ?_
    refine And.intro (show inR ((i : Int) + 1) from ⟨by omega, by omega⟩) ?_
    refine And.intro (show 0 ≤ (i : Int) + 1 ∧ (i : Int) + 1 < g 901 0 from ⟨by omega, by rw [zg.2]; omega⟩) ?_
    refine And.intro (show inR ((i : Int) + 2) from ⟨by omega, by omega⟩) ?_
    refine And.intro (show 0 ≤ (i : Int) + 2 ∧ (i : Int) + 2 < g 901 0 from ⟨by omega, by rw [zg.2]; omega⟩) ?_
    refine And.intro (show inR ((i : Int) + 3) from ⟨by omega, by omega⟩) ?_
    refine And.intro (show 0 ≤ (i : Int) + 3 ∧ (i : Int) + 3 < g 901 0 from ⟨by omega, by rw [zg.2]; omega⟩) ?_
    refine And.intro (fun d2 => ?_) (fun d2 => absurd ((f3.trans e3.symm).trans d1) d2)
    refine bnd_in (show k + 2 + 0 ≤ 601024 by omega) (show n + 12 + 0 ≤ 7293034 by omega) ?_
    show Ok 242 [vR 50, vI (g 900 ((i : Int) + 1).toNat), vI (g 900 ((i : Int) + 2).toNat), vI 0] (LL MO) g _
    rw [f1, f2]
    refine Ok_mono (fun o Λ' g2 Q => ?_) H2
    obtain ⟨rfl, J2, e0, b, rfl, x, rfl, hq⟩ := Q
    refine bnd_in (show k + 2 + 0 + 0 ≤ 601024 by omega) (show n + 12 + 0 + 0 ≤ 7293034 by omega) ?_
    refine Ok_rt m_thrown ?_
    refine And.intro (fun c => ?_) (fun c => absurd e0 c)
    refine And.intro (fun c2 => ?_) (fun c2 => ?_)
    · exact K g2 _ _ _ _ _ J2 (by omega) (by omega)
    · refine And.intro ⟨by decide, by decide⟩ ?_
      exact And.intro (fun c3 => K g2 _ _ _ _ _ J2 (by omega) (by omega)) (fun c3 => absurd (hq c2) c3)
  · refine bnd_in (show k + 2 ≤ 601024 by omega) (show n + 12 ≤ 7293034 by omega) ?_
    show Ok 299 [vR 1, vI (h 900 ((i : Int) + 1).toNat), vI (h 900 ((i : Int) + 2).toNat), vI 1, vR 77] (LL MO) h _
    rw [e1, e2]
    refine Ok_mono (fun o Λ' g P => ?_) (P_extreme J)
    obtain ⟨rfl, k1, rfl, H2⟩ := P
    show X 1462 [vR 900, vR 1, vR 50, vR 77, vR 78, vI (i : Int), vI k1, t7, t8] [] (LL MO) g _ _
    refine hZ _ _ _ _ _ _ _ (fun zg => ?_)
    have f1 : g 900 ((i : Int) + 1).toNat = s (i + 1) := z_at (j := 1) zg hi (by decide)
    have f2 : g 900 ((i : Int) + 2).toNat = s (i + 2) := z_at (j := 2) zg hi (by decide)
    have f3 : g 900 ((i : Int) + 3).toNat = s (i + 3) := z_at (j := 3) zg hi (by decide)
    refine hX 100 [2720] 1462 _ _ _ _ _ _ ?_
    refine And.intro (show inR ((i : Int) + 1) from ⟨by omega, by omega⟩) ?_
    refine And.intro (show 0 ≤ (i : Int) + 1 ∧ (i : Int) + 1 < g 901 0 from ⟨by omega, by rw [zg.2]; omega⟩) ?_
    refine And.intro (show inR ((i : Int) + 2) from ⟨by omega, by omega⟩) ?_
    refine And.intro (show 0 ≤ (i : Int) + 2 ∧ (i : Int) + 2 < g 901 0 from ⟨by omega, by rw [zg.2]; omega⟩) ?_
    refine And.intro (show inR ((i : Int) + 3) from ⟨by omega, by omega⟩) ?_
    refine And.intro (show 0 ≤ (i : Int) + 3 ∧ (i : Int) + 3 < g 901 0 from ⟨by omega, by rw [zg.2]; omega⟩) ?_
    refine And.intro (fun d2 => absurd ((e3.trans f3.symm).trans d2) d1) (fun d2 => ?_)
    refine bnd_in (show k + 2 + 0 ≤ 601024 by omega) (show n + 12 + 0 ≤ 7293034 by omega) ?_
    show Ok 242 [vR 50, vI (g 900 ((i : Int) + 1).toNat), vI (g 900 ((i : Int) + 2).toNat), vI 1] (LL MO) g _
    rw [f1, f2]
    refine Ok_mono (fun o Λ' g2 Q => ?_) H2
    obtain ⟨rfl, J2, e0, b, rfl, x, rfl, hq⟩ := Q
    refine bnd_in (show k + 2 + 0 + 0 ≤ 601024 by omega) (show n + 12 + 0 + 0 ≤ 7293034 by omega) ?_
    refine Ok_rt m_thrown ?_
    refine And.intro (fun c => ?_) (fun c => absurd e0 c)
    refine And.intro (fun c2 => ?_) (fun c2 => ?_)
    · exact K g2 _ _ _ _ _ J2 (by omega) (by omega)
    · refine And.intro ⟨by decide, by decide⟩ ?_
      exact And.intro (fun c3 => K g2 _ _ _ _ _ J2 (by omega) (by omega)) (fun c3 => absurd (hq c2) c3)
theorem C_1525 (hX : HX X mcl_1525) (hZ : HZ X s l) (hs : ∀ j : Nat, (j : Int) < l → inR (s j)) (hi : (i : Int) + 6 ≤ l) (hl : l ≤ 3072) (hk : k ≤ 4000) (hn : n ≤ 100000) (J : JV h) (K : GO X i k n) : X 1525 [vR 900, vR 1, vR 50, vR 77, vR 78, vI (i : Int), t6, t7, t8] [] (LL MO) h k n := by
  refine hZ _ _ _ _ _ _ _ (fun zc => ?_)
  have e1 : h 900 ((i : Int) + 1).toNat = s (i + 1) := z_at (j := 1) zc hi (by decide)
  have e2 : h 900 ((i : Int) + 2).toNat = s (i + 2) := z_at (j := 2) zc hi (by decide)
  have e3 : h 900 ((i : Int) + 3).toNat = s (i + 3) := z_at (j := 3) zc hi (by decide)
  have e4 : h 900 ((i : Int) + 4).toNat = s (i + 4) := z_at (j := 4) zc hi (by decide)
  refine hX 100 [1556] 1525 _ _ _ _ _ _ ?_
  refine And.intro (show inR ((i : Int) + 1) from ⟨by omega, by omega⟩) ?_
  refine And.intro (show 0 ≤ (i : Int) + 1 ∧ (i : Int) + 1 < h 901 0 from ⟨by omega, by rw [zc.2]; omega⟩) ?_
  refine And.intro (show inR ((i : Int) + 2) from ⟨by omega, by omega⟩) ?_
  refine And.intro (show 0 ≤ (i : Int) + 2 ∧ (i : Int) + 2 < h 901 0 from ⟨by omega, by rw [zc.2]; omega⟩) ?_
  refine And.intro (show inR ((i : Int) + 3) from ⟨by omega, by omega⟩) ?_
  refine And.intro (show 0 ≤ (i : Int) + 3 ∧ (i : Int) + 3 < h 901 0 from ⟨by omega, by rw [zc.2]; omega⟩) ?_
  refine And.intro (show inR ((i : Int) + 4) from ⟨by omega, by omega⟩) ?_
  refine And.intro (show 0 ≤ (i : Int) + 4 ∧ (i : Int) + 4 < h 901 0 from ⟨by omega, by rw [zc.2]; omega⟩) ?_
  refine bnd_in (show k + 5 ≤ 601024 by omega) (show n + 30 ≤ 7293034 by omega) ?_
  show Ok 300 [vR 1, vI (h 900 ((i : Int) + 1).toNat), vI (h 900 ((i : Int) + 2).toNat), vI (h 900 ((i : Int) + 3).toNat), vI (h 900 ((i : Int) + 4).toNat), vR 77] (LL MO) h _
  rw [e1, e2, e3, e4]
  refine Ok_mono (fun o Λ' g P => ?_) (P_shaping J (hs _ (by omega)))
  obtain ⟨rfl, k1, rfl, H2⟩ := P
  show X 1556 [vR 900, vR 1, vR 50, vR 77, vR 78, vI (i : Int), vI k1, t7, t8] [] (LL MO) g _ _
  refine hZ _ _ _ _ _ _ _ (fun zg => ?_)
  have f1 : g 900 ((i : Int) + 1).toNat = s (i + 1) := z_at (j := 1) zg hi (by decide)
  have f2 : g 900 ((i : Int) + 2).toNat = s (i + 2) := z_at (j := 2) zg hi (by decide)
  have f3 : g 900 ((i : Int) + 3).toNat = s (i + 3) := z_at (j := 3) zg hi (by decide)
  have f4 : g 900 ((i : Int) + 4).toNat = s (i + 4) := z_at (j := 4) zg hi (by decide)
  refine hX 100 [2720] 1556 _ _ _ _ _ _ ?_
  refine And.intro (show inR ((i : Int) + 1) from ⟨by omega, by omega⟩) ?_
  refine And.intro (show 0 ≤ (i : Int) + 1 ∧ (i : Int) + 1 < g 901 0 from ⟨by omega, by rw [zg.2]; omega⟩) ?_
  refine And.intro (show inR ((i : Int) + 2) from ⟨by omega, by omega⟩) ?_
  refine And.intro (show 0 ≤ (i : Int) + 2 ∧ (i : Int) + 2 < g 901 0 from ⟨by omega, by rw [zg.2]; omega⟩) ?_
  refine And.intro (show inR ((i : Int) + 3) from ⟨by omega, by omega⟩) ?_
  refine And.intro (show 0 ≤ (i : Int) + 3 ∧ (i : Int) + 3 < g 901 0 from ⟨by omega, by rw [zg.2]; omega⟩) ?_
  refine And.intro (show inR ((i : Int) + 4) from ⟨by omega, by omega⟩) ?_
  refine And.intro (show 0 ≤ (i : Int) + 4 ∧ (i : Int) + 4 < g 901 0 from ⟨by omega, by rw [zg.2]; omega⟩) ?_
  refine bnd_in (show k + 5 + 0 ≤ 601024 by omega) (show n + 30 + 0 ≤ 7293034 by omega) ?_
  show Ok 243 [vR 50, vI (g 900 ((i : Int) + 1).toNat), vI (g 900 ((i : Int) + 2).toNat), vI (g 900 ((i : Int) + 3).toNat), vI (g 900 ((i : Int) + 4).toNat)] (LL MO) g _
  rw [f1, f2, f3, f4]
  refine Ok_mono (fun o Λ' g2 Q => ?_) H2
  obtain ⟨rfl, J2, e0, b, rfl, x, rfl, hq⟩ := Q
  refine bnd_in (show k + 5 + 0 + 0 ≤ 601024 by omega) (show n + 30 + 0 + 0 ≤ 7293034 by omega) ?_
  refine Ok_rt m_thrown ?_
  refine And.intro (fun c => ?_) (fun c => absurd e0 c)
  refine And.intro (fun c2 => ?_) (fun c2 => ?_)
  · exact K g2 _ _ _ _ _ J2 (by omega) (by omega)
  · refine And.intro ⟨by decide, by decide⟩ ?_
    exact And.intro (fun c3 => K g2 _ _ _ _ _ J2 (by omega) (by omega)) (fun c3 => absurd (hq c2) c3)
theorem C_1617 (hX : HX X mcl_1617) (hZ : HZ X s l) (hs : ∀ j : Nat, (j : Int) < l → inR (s j)) (hi : (i : Int) + 6 ≤ l) (hl : l ≤ 3072) (hk : k ≤ 4000) (hn : n ≤ 100000) (J : JV h) (K : GO X i k n) : X 1617 [vR 900, vR 1, vR 50, vR 77, vR 78, vI (i : Int), t6, t7, t8] [] (LL MO) h k n := by
  refine hZ _ _ _ _ _ _ _ (fun zc => ?_)
  have e1 : h 900 ((i : Int) + 1).toNat = s (i + 1) := z_at (j := 1) zc hi (by decide)
  have e2 : h 900 ((i : Int) + 2).toNat = s (i + 2) := z_at (j := 2) zc hi (by decide)
  have e3 : h 900 ((i : Int) + 3).toNat = s (i + 3) := z_at (j := 3) zc hi (by decide)
  refine hX 100 [1643] 1617 _ _ _ _ _ _ ?_
  refine And.intro (show inR ((i : Int) + 1) from ⟨by omega, by omega⟩) ?_
  refine And.intro (show 0 ≤ (i : Int) + 1 ∧ (i : Int) + 1 < h 901 0 from ⟨by omega, by rw [zc.2]; omega⟩) ?_
  refine And.intro (show inR ((i : Int) + 2) from ⟨by omega, by omega⟩) ?_
  refine And.intro (show 0 ≤ (i : Int) + 2 ∧ (i : Int) + 2 < h 901 0 from ⟨by omega, by rw [zc.2]; omega⟩) ?_
  refine And.intro (show inR ((i : Int) + 3) from ⟨by omega, by omega⟩) ?_
  refine And.intro (show 0 ≤ (i : Int) + 3 ∧ (i : Int) + 3 < h 901 0 from ⟨by omega, by rw [zc.2]; omega⟩) ?_
  refine bnd_in (show k + 3 ≤ 601024 by omega) (show n + 18 ≤ 7293034 by omega) ?_
  show Ok 301 [vR 1, vI (h 900 ((i : Int) + 1).toNat), vI (h 900 ((i : Int) + 2).toNat), vI (h 900 ((i : Int) + 3).toNat), vR 78] (LL MO) h _
  rw [e1, e2, e3]
  refine Ok_mono (fun o Λ' g P => ?_) (P_width J)
  obtain ⟨rfl, k1, rfl, H2⟩ := P
  show X 1643 [vR 900, vR 1, vR 50, vR 77, vR 78, vI (i : Int), vI k1, t7, t8] [] (LL MO) g _ _
  refine hZ _ _ _ _ _ _ _ (fun zg => ?_)
  have f1 : g 900 ((i : Int) + 1).toNat = s (i + 1) := z_at (j := 1) zg hi (by decide)
  have f2 : g 900 ((i : Int) + 2).toNat = s (i + 2) := z_at (j := 2) zg hi (by decide)
  have f3 : g 900 ((i : Int) + 3).toNat = s (i + 3) := z_at (j := 3) zg hi (by decide)
  refine hX 100 [2720] 1643 _ _ _ _ _ _ ?_
  refine And.intro (show inR ((i : Int) + 1) from ⟨by omega, by omega⟩) ?_
  refine And.intro (show 0 ≤ (i : Int) + 1 ∧ (i : Int) + 1 < g 901 0 from ⟨by omega, by rw [zg.2]; omega⟩) ?_
  refine And.intro (show inR ((i : Int) + 2) from ⟨by omega, by omega⟩) ?_
  refine And.intro (show 0 ≤ (i : Int) + 2 ∧ (i : Int) + 2 < g 901 0 from ⟨by omega, by rw [zg.2]; omega⟩) ?_
  refine And.intro (show inR ((i : Int) + 3) from ⟨by omega, by omega⟩) ?_
  refine And.intro (show 0 ≤ (i : Int) + 3 ∧ (i : Int) + 3 < g 901 0 from ⟨by omega, by rw [zg.2]; omega⟩) ?_
  refine bnd_in (show k + 3 + 0 ≤ 601024 by omega) (show n + 18 + 0 ≤ 7293034 by omega) ?_
  show Ok 244 [vR 50, vI (g 900 ((i : Int) + 1).toNat), vI (g 900 ((i : Int) + 2).toNat), vI (g 900 ((i : Int) + 3).toNat)] (LL MO) g _
  rw [f1, f2, f3]
  refine Ok_mono (fun o Λ' g2 Q => ?_) H2
  obtain ⟨rfl, J2, e0, b, rfl, x, rfl, hq⟩ := Q
  refine bnd_in (show k + 3 + 0 + 0 ≤ 601024 by omega) (show n + 18 + 0 + 0 ≤ 7293034 by omega) ?_
  refine Ok_rt m_thrown ?_
  refine And.intro (fun c => ?_) (fun c => absurd e0 c)
  refine And.intro (fun c2 => ?_) (fun c2 => ?_)
  · exact K g2 _ _ _ _ _ J2 (by omega) (by omega)
  · refine And.intro ⟨by decide, by decide⟩ ?_
    refine And.intro (f2d_ok (hq c2).1).1 ?_
    exact And.intro (fun c3 => K g2 _ _ _ _ _ J2 (by omega) (by omega)) (fun c3 => absurd (dc_0 (f2d_ok (hq c2).1).2 (hq c2).2) c3)
theorem C_1719 (hX : HX X mcl_1719) (hZ : HZ X s l) (hs : ∀ j : Nat, (j : Int) < l → inR (s j)) (hi : (i : Int) + 6 ≤ l) (hl : l ≤ 3072) (hk : k ≤ 4000) (hn : n ≤ 100000) (J : JV h) (K : GO X i k n) : X 1719 [vR 900, vR 1, vR 50, vR 77, vR 78, vI (i : Int), t6, t7, t8] [] (LL MO) h k n := by
  refine hZ _ _ _ _ _ _ _ (fun zc => ?_)
  have e1 : h 900 ((i : Int) + 1).toNat = s (i + 1) := z_at (j := 1) zc hi (by decide)
  have e2 : h 900 ((i : Int) + 2).toNat = s (i + 2) := z_at (j := 2) zc hi (by decide)
  refine hX 100 [1739] 1719 _ _ _ _ _ _ ?_
  refine And.intro (show inR ((i : Int) + 1) from ⟨by omega, by omega⟩) ?_
  refine And.intro (show 0 ≤ (i : Int) + 1 ∧ (i : Int) + 1 < h 901 0 from ⟨by omega, by rw [zc.2]; omega⟩) ?_
  refine And.intro (show inR ((i : Int) + 2) from ⟨by omega, by omega⟩) ?_
  refine And.intro (show 0 ≤ (i : Int) + 2 ∧ (i : Int) + 2 < h 901 0 from ⟨by omega, by rw [zc.2]; omega⟩) ?_
  refine bnd_in (show k + 2 ≤ 601024 by omega) (show n + 12 ≤ 7293034 by omega) ?_
  show Ok 302 [vR 1, vI (h 900 ((i : Int) + 1).toNat), vI (h 900 ((i : Int) + 2).toNat), vR 78] (LL MO) h _
  rw [e1, e2]
  refine Ok_mono (fun o Λ' g P => ?_) (P_mean J)
  obtain ⟨rfl, k1, rfl, H2⟩ := P
  show X 1739 [vR 900, vR 1, vR 50, vR 77, vR 78, vI (i : Int), vI k1, t7, t8] [] (LL MO) g _ _
  refine hZ _ _ _ _ _ _ _ (fun zg => ?_)
  have f1 : g 900 ((i : Int) + 1).toNat = s (i + 1) := z_at (j := 1) zg hi (by decide)
  have f2 : g 900 ((i : Int) + 2).toNat = s (i + 2) := z_at (j := 2) zg hi (by decide)
  refine hX 100 [2720] 1739 _ _ _ _ _ _ ?_
  refine And.intro (show inR ((i : Int) + 1) from ⟨by omega, by omega⟩) ?_
  refine And.intro (show 0 ≤ (i : Int) + 1 ∧ (i : Int) + 1 < g 901 0 from ⟨by omega, by rw [zg.2]; omega⟩) ?_
  refine And.intro (show inR ((i : Int) + 2) from ⟨by omega, by omega⟩) ?_
  refine And.intro (show 0 ≤ (i : Int) + 2 ∧ (i : Int) + 2 < g 901 0 from ⟨by omega, by rw [zg.2]; omega⟩) ?_
  refine bnd_in (show k + 2 + 0 ≤ 601024 by omega) (show n + 12 + 0 ≤ 7293034 by omega) ?_
  show Ok 245 [vR 50, vI (g 900 ((i : Int) + 1).toNat), vI (g 900 ((i : Int) + 2).toNat)] (LL MO) g _
  rw [f1, f2]
  refine Ok_mono (fun o Λ' g2 Q => ?_) H2
  obtain ⟨rfl, J2, e0, b, rfl, x, rfl, hq⟩ := Q
  refine bnd_in (show k + 2 + 0 + 0 ≤ 601024 by omega) (show n + 12 + 0 + 0 ≤ 7293034 by omega) ?_
  refine Ok_rt m_thrown ?_
  refine And.intro (fun c => ?_) (fun c => absurd e0 c)
  refine And.intro (fun c2 => ?_) (fun c2 => ?_)
  · exact K g2 _ _ _ _ _ J2 (by omega) (by omega)
  · refine And.intro ⟨by decide, by decide⟩ ?_
    exact And.intro (fun c3 => K g2 _ _ _ _ _ J2 (by omega) (by omega)) (fun c3 => absurd (dc_0 (hq c2).1 (hq c2).2) c3)
theorem C_1808 (hX : HX X mcl_1808) (hZ : HZ X s l) (hs : ∀ j : Nat, (j : Int) < l → inR (s j)) (hi : (i : Int) + 6 ≤ l) (hl : l ≤ 3072) (hk : k ≤ 4000) (hn : n ≤ 100000) (J : JV h) (K : GO X i k n) : X 1808 [vR 900, vR 1, vR 50, vR 77, vR 78, vI (i : Int), t6, t7, t8] [] (LL MO) h k n := by
  refine hZ _ _ _ _ _ _ _ (fun zc => ?_)
  have e1 : h 900 ((i : Int) + 1).toNat = s (i + 1) := z_at (j := 1) zc hi (by decide)
  have e2 : h 900 ((i : Int) + 2).toNat = s (i + 2) := z_at (j := 2) zc hi (by decide)
  have e3 : h 900 ((i : Int) + 3).toNat = s (i + 3) := z_at (j := 3) zc hi (by decide)
  refine hX 100 [1833] 1808 _ _ _ _ _ _ ?_
  refine And.intro (show inR ((i : Int) + 1) from ⟨by omega, by omega⟩) ?_
  refine And.intro (show 0 ≤ (i : Int) + 1 ∧ (i : Int) + 1 < h 901 0 from ⟨by omega, by rw [zc.2]; omega⟩) ?_
  refine And.intro (show inR ((i : Int) + 2) from ⟨by omega, by omega⟩) ?_
  refine And.intro (show 0 ≤ (i : Int) + 2 ∧ (i : Int) + 2 < h 901 0 from ⟨by omega, by rw [zc.2]; omega⟩) ?_
  refine And.intro (show inR ((i : Int) + 3) from ⟨by omega, by omega⟩) ?_
  refine And.intro (show 0 ≤ (i : Int) + 3 ∧ (i : Int) + 3 < h 901 0 from ⟨by omega, by rw [zc.2]; omega⟩) ?_
  refine bnd_in (show k + 3 ≤ 601024 by omega) (show n + 18 ≤ 7293034 by omega) ?_
  show Ok 303 [vR 1, vI (h 900 ((i : Int) + 1).toNat), vI (h 900 ((i : Int) + 2).toNat), vI (h 900 ((i : Int) + 3).toNat), vR 77] (LL MO) h _
  rw [e1, e2, e3]
  refine Ok_mono (fun o Λ' g P => ?_) (P_need J)
  obtain ⟨rfl, k1, rfl, H2⟩ := P
  show X 1833 [vR 900, vR 1, vR 50, vR 77, vR 78, vI (i : Int), vI k1, t7, t8] [] (LL MO) g _ _
  refine hZ _ _ _ _ _ _ _ (fun zg => ?_)
  have f1 : g 900 ((i : Int) + 1).toNat = s (i + 1) := z_at (j := 1) zg hi (by decide)
  have f2 : g 900 ((i : Int) + 2).toNat = s (i + 2) := z_at (j := 2) zg hi (by decide)
  have f3 : g 900 ((i : Int) + 3).toNat = s (i + 3) := z_at (j := 3) zg hi (by decide)
  refine hX 100 [2720] 1833 _ _ _ _ _ _ ?_
  refine And.intro (show inR ((i : Int) + 1) from ⟨by omega, by omega⟩) ?_
  refine And.intro (show 0 ≤ (i : Int) + 1 ∧ (i : Int) + 1 < g 901 0 from ⟨by omega, by rw [zg.2]; omega⟩) ?_
  refine And.intro (show inR ((i : Int) + 2) from ⟨by omega, by omega⟩) ?_
  refine And.intro (show 0 ≤ (i : Int) + 2 ∧ (i : Int) + 2 < g 901 0 from ⟨by omega, by rw [zg.2]; omega⟩) ?_
  refine And.intro (show inR ((i : Int) + 3) from ⟨by omega, by omega⟩) ?_
  refine And.intro (show 0 ≤ (i : Int) + 3 ∧ (i : Int) + 3 < g 901 0 from ⟨by omega, by rw [zg.2]; omega⟩) ?_
  refine bnd_in (show k + 3 + 0 ≤ 601024 by omega) (show n + 18 + 0 ≤ 7293034 by omega) ?_
  show Ok 248 [vR 50, vI (g 900 ((i : Int) + 1).toNat), vI (g 900 ((i : Int) + 2).toNat), vI (g 900 ((i : Int) + 3).toNat)] (LL MO) g _
  rw [f1, f2, f3]
  refine Ok_mono (fun o Λ' g2 Q => ?_) H2
  obtain ⟨rfl, J2, e0, b, rfl, x, rfl, hq⟩ := Q
  refine bnd_in (show k + 3 + 0 + 0 ≤ 601024 by omega) (show n + 18 + 0 + 0 ≤ 7293034 by omega) ?_
  refine Ok_rt m_thrown ?_
  refine And.intro (fun c => ?_) (fun c => absurd e0 c)
  refine And.intro (fun c2 => ?_) (fun c2 => ?_)
  · exact K g2 _ _ _ _ _ J2 (by omega) (by omega)
  · refine And.intro ⟨by decide, by decide⟩ ?_
    exact And.intro (fun c3 => K g2 _ _ _ _ _ J2 (by omega) (by omega)) (fun c3 => absurd (hq c2) c3)
theorem C_1887 (hX : HX X mcl_1887) (hZ : HZ X s l) (hs : ∀ j : Nat, (j : Int) < l → inR (s j)) (hi : (i : Int) + 6 ≤ l) (hl : l ≤ 3072) (hk : k ≤ 4000) (hn : n ≤ 100000) (J : JV h) (K : GO X i k n) : X 1887 [vR 900, vR 1, vR 50, vR 77, vR 78, vI (i : Int), t6, t7, t8] [] (LL MO) h k n := by
  refine hZ _ _ _ _ _ _ _ (fun zc => ?_)
  have e1 : h 900 ((i : Int) + 1).toNat = s (i + 1) := z_at (j := 1) zc hi (by decide)
  have e2 : h 900 ((i : Int) + 2).toNat = s (i + 2) := z_at (j := 2) zc hi (by decide)
  refine hX 100 [1906] 1887 _ _ _ _ _ _ ?_
  refine And.intro (show inR ((i : Int) + 1) from ⟨by omega, by omega⟩) ?_
  refine And.intro (show 0 ≤ (i : Int) + 1 ∧ (i : Int) + 1 < h 901 0 from ⟨by omega, by rw [zc.2]; omega⟩) ?_
  refine And.intro (show inR ((i : Int) + 2) from ⟨by omega, by omega⟩) ?_
  refine And.intro (show 0 ≤ (i : Int) + 2 ∧ (i : Int) + 2 < h 901 0 from ⟨by omega, by rw [zc.2]; omega⟩) ?_
  refine bnd_in (show k + 2 ≤ 601024 by omega) (show n + 12 ≤ 7293034 by omega) ?_
  show Ok 304 [vR 1, vI (h 900 ((i : Int) + 1).toNat), vI (h 900 ((i : Int) + 2).toNat), vR 77] (LL MO) h _
  rw [e1, e2]
  refine Ok_mono (fun o Λ' g P => ?_) (P_lot J)
  obtain ⟨rfl, k1, rfl, H2⟩ := P
  show X 1906 [vR 900, vR 1, vR 50, vR 77, vR 78, vI (i : Int), vI k1, t7, t8] [] (LL MO) g _ _
  refine hZ _ _ _ _ _ _ _ (fun zg => ?_)
  have f1 : g 900 ((i : Int) + 1).toNat = s (i + 1) := z_at (j := 1) zg hi (by decide)
  have f2 : g 900 ((i : Int) + 2).toNat = s (i + 2) := z_at (j := 2) zg hi (by decide)
  refine hX 100 [2720] 1906 _ _ _ _ _ _ ?_
  refine And.intro (show inR ((i : Int) + 1) from ⟨by omega, by omega⟩) ?_
  refine And.intro (show 0 ≤ (i : Int) + 1 ∧ (i : Int) + 1 < g 901 0 from ⟨by omega, by rw [zg.2]; omega⟩) ?_
  refine And.intro (show inR ((i : Int) + 2) from ⟨by omega, by omega⟩) ?_
  refine And.intro (show 0 ≤ (i : Int) + 2 ∧ (i : Int) + 2 < g 901 0 from ⟨by omega, by rw [zg.2]; omega⟩) ?_
  refine bnd_in (show k + 2 + 0 ≤ 601024 by omega) (show n + 12 + 0 ≤ 7293034 by omega) ?_
  show Ok 249 [vR 50, vI (g 900 ((i : Int) + 1).toNat), vI (g 900 ((i : Int) + 2).toNat)] (LL MO) g _
  rw [f1, f2]
  refine Ok_mono (fun o Λ' g2 Q => ?_) H2
  obtain ⟨rfl, J2, e0, b, rfl, x, rfl, hq⟩ := Q
  refine bnd_in (show k + 2 + 0 + 0 ≤ 601024 by omega) (show n + 12 + 0 + 0 ≤ 7293034 by omega) ?_
  refine Ok_rt m_thrown ?_
  refine And.intro (fun c => ?_) (fun c => absurd e0 c)
  refine And.intro (fun c2 => ?_) (fun c2 => ?_)
  · exact K g2 _ _ _ _ _ J2 (by omega) (by omega)
  · refine And.intro ⟨by decide, by decide⟩ ?_
    exact And.intro (fun c3 => K g2 _ _ _ _ _ J2 (by omega) (by omega)) (fun c3 => absurd (hq c2) c3)
theorem C_1955 (hX : HX X mcl_1955) (hZ : HZ X s l) (hs : ∀ j : Nat, (j : Int) < l → inR (s j)) (hi : (i : Int) + 6 ≤ l) (hl : l ≤ 3072) (hk : k ≤ 4000) (hn : n ≤ 100000) (J : JV h) (K : GO X i k n) : X 1955 [vR 900, vR 1, vR 50, vR 77, vR 78, vI (i : Int), t6, t7, t8] [] (LL MO) h k n := by
  refine hZ _ _ _ _ _ _ _ (fun zc => ?_)
  have e1 : h 900 ((i : Int) + 1).toNat = s (i + 1) := z_at (j := 1) zc hi (by decide)
  have e2 : h 900 ((i : Int) + 2).toNat = s (i + 2) := z_at (j := 2) zc hi (by decide)
  have e3 : h 900 ((i : Int) + 3).toNat = s (i + 3) := z_at (j := 3) zc hi (by decide)
  refine hX 100 [1980] 1955 _ _ _ _ _ _ ?_
  refine And.intro (show inR ((i : Int) + 1) from ⟨by omega, by omega⟩) ?_
  refine And.intro (show 0 ≤ (i : Int) + 1 ∧ (i : Int) + 1 < h 901 0 from ⟨by omega, by rw [zc.2]; omega⟩) ?_
  refine And.intro (show inR ((i : Int) + 2) from ⟨by omega, by omega⟩) ?_
  refine And.intro (show 0 ≤ (i : Int) + 2 ∧ (i : Int) + 2 < h 901 0 from ⟨by omega, by rw [zc.2]; omega⟩) ?_
  refine And.intro (show inR ((i : Int) + 3) from ⟨by omega, by omega⟩) ?_
  refine And.intro (show 0 ≤ (i : Int) + 3 ∧ (i : Int) + 3 < h 901 0 from ⟨by omega, by rw [zc.2]; omega⟩) ?_
  refine bnd_in (show k + 5 ≤ 601024 by omega) (show n + 30 ≤ 7293034 by omega) ?_
  show Ok 305 [vR 1, vI (h 900 ((i : Int) + 1).toNat), vI (h 900 ((i : Int) + 2).toNat), vI (h 900 ((i : Int) + 3).toNat), vR 77] (LL MO) h _
  rw [e1, e2, e3]
  refine Ok_mono (fun o Λ' g P => ?_) (P_dealt J)
  obtain ⟨rfl, k1, rfl, H2⟩ := P
  show X 1980 [vR 900, vR 1, vR 50, vR 77, vR 78, vI (i : Int), vI k1, t7, t8] [] (LL MO) g _ _
  refine hZ _ _ _ _ _ _ _ (fun zg => ?_)
  have f1 : g 900 ((i : Int) + 1).toNat = s (i + 1) := z_at (j := 1) zg hi (by decide)
  have f2 : g 900 ((i : Int) + 2).toNat = s (i + 2) := z_at (j := 2) zg hi (by decide)
  have f3 : g 900 ((i : Int) + 3).toNat = s (i + 3) := z_at (j := 3) zg hi (by decide)
  refine hX 100 [2720] 1980 _ _ _ _ _ _ ?_
  refine And.intro (show inR ((i : Int) + 1) from ⟨by omega, by omega⟩) ?_
  refine And.intro (show 0 ≤ (i : Int) + 1 ∧ (i : Int) + 1 < g 901 0 from ⟨by omega, by rw [zg.2]; omega⟩) ?_
  refine And.intro (show inR ((i : Int) + 2) from ⟨by omega, by omega⟩) ?_
  refine And.intro (show 0 ≤ (i : Int) + 2 ∧ (i : Int) + 2 < g 901 0 from ⟨by omega, by rw [zg.2]; omega⟩) ?_
  refine And.intro (show inR ((i : Int) + 3) from ⟨by omega, by omega⟩) ?_
  refine And.intro (show 0 ≤ (i : Int) + 3 ∧ (i : Int) + 3 < g 901 0 from ⟨by omega, by rw [zg.2]; omega⟩) ?_
  refine bnd_in (show k + 5 + 0 ≤ 601024 by omega) (show n + 30 + 0 ≤ 7293034 by omega) ?_
  show Ok 255 [vR 50, vI (g 900 ((i : Int) + 1).toNat), vI (g 900 ((i : Int) + 2).toNat), vI (g 900 ((i : Int) + 3).toNat)] (LL MO) g _
  rw [f1, f2, f3]
  refine Ok_mono (fun o Λ' g2 Q => ?_) H2
  obtain ⟨rfl, J2, e0, b, rfl, x, rfl, hq⟩ := Q
  refine bnd_in (show k + 5 + 0 + 0 ≤ 601024 by omega) (show n + 30 + 0 + 0 ≤ 7293034 by omega) ?_
  refine Ok_rt m_thrown ?_
  refine And.intro (fun c => ?_) (fun c => absurd e0 c)
  refine And.intro (fun c2 => ?_) (fun c2 => ?_)
  · exact K g2 _ _ _ _ _ J2 (by omega) (by omega)
  · refine And.intro ⟨by decide, by decide⟩ ?_
    exact And.intro (fun c3 => K g2 _ _ _ _ _ J2 (by omega) (by omega)) (fun c3 => absurd (hq c2) c3)
theorem C_2035 (hX : HX X mcl_2035) (hZ : HZ X s l) (hs : ∀ j : Nat, (j : Int) < l → inR (s j)) (hi : (i : Int) + 6 ≤ l) (hl : l ≤ 3072) (hk : k ≤ 4000) (hn : n ≤ 100000) (J : JV h) (K : GO X i k n) : X 2035 [vR 900, vR 1, vR 50, vR 77, vR 78, vI (i : Int), t6, t7, t8] [] (LL MO) h k n := by
  refine hZ _ _ _ _ _ _ _ (fun zc => ?_)
  have e1 : h 900 ((i : Int) + 1).toNat = s (i + 1) := z_at (j := 1) zc hi (by decide)
  refine hX 100 [2048] 2035 _ _ _ _ _ _ ?_
  refine And.intro (show inR ((i : Int) + 1) from ⟨by omega, by omega⟩) ?_
  refine And.intro (show 0 ≤ (i : Int) + 1 ∧ (i : Int) + 1 < h 901 0 from ⟨by omega, by rw [zc.2]; omega⟩) ?_
  refine bnd_in (show k + 3 ≤ 601024 by omega) (show n + 18 ≤ 7293034 by omega) ?_
  show Ok 306 [vR 1, vI (h 900 ((i : Int) + 1).toNat), vR 77] (LL MO) h _
  rw [e1]
  refine Ok_mono (fun o Λ' g P => ?_) (P_lotsUsed J)
  obtain ⟨rfl, k1, rfl, H2⟩ := P
  show X 2048 [vR 900, vR 1, vR 50, vR 77, vR 78, vI (i : Int), vI k1, t7, t8] [] (LL MO) g _ _
  refine hZ _ _ _ _ _ _ _ (fun zg => ?_)
  have f1 : g 900 ((i : Int) + 1).toNat = s (i + 1) := z_at (j := 1) zg hi (by decide)
  refine hX 100 [2720] 2048 _ _ _ _ _ _ ?_
  refine And.intro (show inR ((i : Int) + 1) from ⟨by omega, by omega⟩) ?_
  refine And.intro (show 0 ≤ (i : Int) + 1 ∧ (i : Int) + 1 < g 901 0 from ⟨by omega, by rw [zg.2]; omega⟩) ?_
  refine bnd_in (show k + 3 + 0 ≤ 601024 by omega) (show n + 18 + 0 ≤ 7293034 by omega) ?_
  show Ok 256 [vR 50, vI (g 900 ((i : Int) + 1).toNat)] (LL MO) g _
  rw [f1]
  refine Ok_mono (fun o Λ' g2 Q => ?_) H2
  obtain ⟨rfl, J2, e0, b, rfl, x, rfl, hq⟩ := Q
  refine bnd_in (show k + 3 + 0 + 0 ≤ 601024 by omega) (show n + 18 + 0 + 0 ≤ 7293034 by omega) ?_
  refine Ok_rt m_thrown ?_
  refine And.intro (fun c => ?_) (fun c => absurd e0 c)
  refine And.intro (fun c2 => ?_) (fun c2 => ?_)
  · exact K g2 _ _ _ _ _ J2 (by omega) (by omega)
  · refine And.intro ⟨by decide, by decide⟩ ?_
    exact And.intro (fun c3 => K g2 _ _ _ _ _ J2 (by omega) (by omega)) (fun c3 => absurd (hq c2) c3)
theorem C_2091 (hX : HX X mcl_2091) (hZ : HZ X s l) (hs : ∀ j : Nat, (j : Int) < l → inR (s j)) (hi : (i : Int) + 6 ≤ l) (hl : l ≤ 3072) (hk : k ≤ 4000) (hn : n ≤ 100000) (J : JV h) (K : GO X i k n) : X 2091 [vR 900, vR 1, vR 50, vR 77, vR 78, vI (i : Int), t6, t7, t8] [] (LL MO) h k n := by
  refine hX 60 [2720] 2091 _ _ _ _ _ _ ?_
  refine bnd_in (show k + 0 ≤ 601024 by omega) (show n + 0 ≤ 7293034 by omega) ?_
  refine Ok_mono (fun o Λ' g P => ?_) (P_possible J)
  obtain ⟨rfl, x, rfl, H2⟩ := P
  refine bnd_in (show k + 0 + 0 ≤ 601024 by omega) (show n + 0 + 0 ≤ 7293034 by omega) ?_
  refine Ok_mono (fun o Λ' g2 Q => ?_) H2
  obtain ⟨rfl, J2, rfl⟩ := Q
  exact And.intro (fun c => K g2 _ _ _ _ _ J2 (by omega) (by omega)) (fun c => absurd rfl c)
theorem C_2104 (hX : HX X mcl_2104) (hZ : HZ X s l) (hs : ∀ j : Nat, (j : Int) < l → inR (s j)) (hi : (i : Int) + 6 ≤ l) (hl : l ≤ 3072) (hk : k ≤ 4000) (hn : n ≤ 100000) (J : JV h) (K : GO X i k n) : X 2104 [vR 900, vR 1, vR 50, vR 77, vR 78, vI (i : Int), t6, t7, t8] [] (LL MO) h k n := by
  refine hZ _ _ _ _ _ _ _ (fun zc => ?_)
  have e1 : h 900 ((i : Int) + 1).toNat = s (i + 1) := z_at (j := 1) zc hi (by decide)
  have e2 : h 900 ((i : Int) + 2).toNat = s (i + 2) := z_at (j := 2) zc hi (by decide)
  have e3 : h 900 ((i : Int) + 3).toNat = s (i + 3) := z_at (j := 3) zc hi (by decide)
  refine hX 100 [2129] 2104 _ _ _ _ _ _ ?_
  refine And.intro (show inR ((i : Int) + 1) from ⟨by omega, by omega⟩) ?_
  refine And.intro (show 0 ≤ (i : Int) + 1 ∧ (i : Int) + 1 < h 901 0 from ⟨by omega, by rw [zc.2]; omega⟩) ?_
  refine And.intro (show inR ((i : Int) + 2) from ⟨by omega, by omega⟩) ?_
  refine And.intro (show 0 ≤ (i : Int) + 2 ∧ (i : Int) + 2 < h 901 0 from ⟨by omega, by rw [zc.2]; omega⟩) ?_
  refine And.intro (show inR ((i : Int) + 3) from ⟨by omega, by omega⟩) ?_
  refine And.intro (show 0 ≤ (i : Int) + 3 ∧ (i : Int) + 3 < h 901 0 from ⟨by omega, by rw [zc.2]; omega⟩) ?_
  refine bnd_in (show k + 3 ≤ 601024 by omega) (show n + 18 ≤ 7293034 by omega) ?_
  show Ok 307 [vR 1, vI (h 900 ((i : Int) + 1).toNat), vI (h 900 ((i : Int) + 2).toNat), vI (h 900 ((i : Int) + 3).toNat), vR 77] (LL MO) h _
  rw [e1, e2, e3]
  refine Ok_mono (fun o Λ' g P => ?_) (P_setGauge J)
  obtain ⟨rfl, k1, rfl, H2⟩ := P
  show X 2129 [vR 900, vR 1, vR 50, vR 77, vR 78, vI (i : Int), vI k1, t7, t8] [] (LL MO) g _ _
  refine hZ _ _ _ _ _ _ _ (fun zg => ?_)
  have f1 : g 900 ((i : Int) + 1).toNat = s (i + 1) := z_at (j := 1) zg hi (by decide)
  have f2 : g 900 ((i : Int) + 2).toNat = s (i + 2) := z_at (j := 2) zg hi (by decide)
  have f3 : g 900 ((i : Int) + 3).toNat = s (i + 3) := z_at (j := 3) zg hi (by decide)
  refine hX 100 [2720] 2129 _ _ _ _ _ _ ?_
  refine And.intro (show inR ((i : Int) + 1) from ⟨by omega, by omega⟩) ?_
  refine And.intro (show 0 ≤ (i : Int) + 1 ∧ (i : Int) + 1 < g 901 0 from ⟨by omega, by rw [zg.2]; omega⟩) ?_
  refine And.intro (show inR ((i : Int) + 2) from ⟨by omega, by omega⟩) ?_
  refine And.intro (show 0 ≤ (i : Int) + 2 ∧ (i : Int) + 2 < g 901 0 from ⟨by omega, by rw [zg.2]; omega⟩) ?_
  refine And.intro (show inR ((i : Int) + 3) from ⟨by omega, by omega⟩) ?_
  refine And.intro (show 0 ≤ (i : Int) + 3 ∧ (i : Int) + 3 < g 901 0 from ⟨by omega, by rw [zg.2]; omega⟩) ?_
  refine bnd_in (show k + 3 + 0 ≤ 601024 by omega) (show n + 18 + 0 ≤ 7293034 by omega) ?_
  show Ok 259 [vR 50, vI (g 900 ((i : Int) + 1).toNat), vI (g 900 ((i : Int) + 2).toNat), vI (g 900 ((i : Int) + 3).toNat)] (LL MO) g _
  rw [f1, f2, f3]
  refine Ok_mono (fun o Λ' g2 Q => ?_) H2
  obtain ⟨rfl, J2, e0, b, rfl, x, rfl, hq⟩ := Q
  refine bnd_in (show k + 3 + 0 + 0 ≤ 601024 by omega) (show n + 18 + 0 + 0 ≤ 7293034 by omega) ?_
  refine Ok_rt m_thrown ?_
  refine And.intro (fun c => ?_) (fun c => absurd e0 c)
  refine And.intro (fun c2 => ?_) (fun c2 => ?_)
  · exact K g2 _ _ _ _ _ J2 (by omega) (by omega)
  · refine And.intro ⟨by decide, by decide⟩ ?_
    exact And.intro (fun c3 => K g2 _ _ _ _ _ J2 (by omega) (by omega)) (fun c3 => absurd (hq c2) c3)
theorem C_2184 (hX : HX X mcl_2184) (hZ : HZ X s l) (hs : ∀ j : Nat, (j : Int) < l → inR (s j)) (hi : (i : Int) + 6 ≤ l) (hl : l ≤ 3072) (hk : k ≤ 4000) (hn : n ≤ 100000) (J : JV h) (K : GO X i k n) : X 2184 [vR 900, vR 1, vR 50, vR 77, vR 78, vI (i : Int), t6, t7, t8] [] (LL MO) h k n := by
  refine hZ _ _ _ _ _ _ _ (fun zc => ?_)
  have e1 : h 900 ((i : Int) + 1).toNat = s (i + 1) := z_at (j := 1) zc hi (by decide)
  have e2 : h 900 ((i : Int) + 2).toNat = s (i + 2) := z_at (j := 2) zc hi (by decide)
  have e3 : h 900 ((i : Int) + 3).toNat = s (i + 3) := z_at (j := 3) zc hi (by decide)
  refine hX 100 [2209] 2184 _ _ _ _ _ _ ?_
  refine And.intro (show inR ((i : Int) + 1) from ⟨by omega, by omega⟩) ?_
  refine And.intro (show 0 ≤ (i : Int) + 1 ∧ (i : Int) + 1 < h 901 0 from ⟨by omega, by rw [zc.2]; omega⟩) ?_
  refine And.intro (show inR ((i : Int) + 2) from ⟨by omega, by omega⟩) ?_
  refine And.intro (show 0 ≤ (i : Int) + 2 ∧ (i : Int) + 2 < h 901 0 from ⟨by omega, by rw [zc.2]; omega⟩) ?_
  refine And.intro (show inR ((i : Int) + 3) from ⟨by omega, by omega⟩) ?_
  refine And.intro (show 0 ≤ (i : Int) + 3 ∧ (i : Int) + 3 < h 901 0 from ⟨by omega, by rw [zc.2]; omega⟩) ?_
  refine bnd_in (show k + 3 ≤ 601024 by omega) (show n + 18 ≤ 7293034 by omega) ?_
  show Ok 308 [vR 1, vI (h 900 ((i : Int) + 1).toNat), vI (h 900 ((i : Int) + 2).toNat), vI (h 900 ((i : Int) + 3).toNat), vR 77] (LL MO) h _
  rw [e1, e2, e3]
  refine Ok_mono (fun o Λ' g P => ?_) (P_setValue J)
  obtain ⟨rfl, k1, rfl, H2⟩ := P
  show X 2209 [vR 900, vR 1, vR 50, vR 77, vR 78, vI (i : Int), vI k1, t7, t8] [] (LL MO) g _ _
  refine hZ _ _ _ _ _ _ _ (fun zg => ?_)
  have f1 : g 900 ((i : Int) + 1).toNat = s (i + 1) := z_at (j := 1) zg hi (by decide)
  have f2 : g 900 ((i : Int) + 2).toNat = s (i + 2) := z_at (j := 2) zg hi (by decide)
  have f3 : g 900 ((i : Int) + 3).toNat = s (i + 3) := z_at (j := 3) zg hi (by decide)
  refine hX 100 [2720] 2209 _ _ _ _ _ _ ?_
  refine And.intro (show inR ((i : Int) + 1) from ⟨by omega, by omega⟩) ?_
  refine And.intro (show 0 ≤ (i : Int) + 1 ∧ (i : Int) + 1 < g 901 0 from ⟨by omega, by rw [zg.2]; omega⟩) ?_
  refine And.intro (show inR ((i : Int) + 2) from ⟨by omega, by omega⟩) ?_
  refine And.intro (show 0 ≤ (i : Int) + 2 ∧ (i : Int) + 2 < g 901 0 from ⟨by omega, by rw [zg.2]; omega⟩) ?_
  refine And.intro (show inR ((i : Int) + 3) from ⟨by omega, by omega⟩) ?_
  refine And.intro (show 0 ≤ (i : Int) + 3 ∧ (i : Int) + 3 < g 901 0 from ⟨by omega, by rw [zg.2]; omega⟩) ?_
  refine bnd_in (show k + 3 + 0 ≤ 601024 by omega) (show n + 18 + 0 ≤ 7293034 by omega) ?_
  show Ok 260 [vR 50, vI (g 900 ((i : Int) + 1).toNat), vI (g 900 ((i : Int) + 2).toNat), vI (g 900 ((i : Int) + 3).toNat)] (LL MO) g _
  rw [f1, f2, f3]
  refine Ok_mono (fun o Λ' g2 Q => ?_) H2
  obtain ⟨rfl, J2, e0, b, rfl, x, rfl, hq⟩ := Q
  refine bnd_in (show k + 3 + 0 + 0 ≤ 601024 by omega) (show n + 18 + 0 + 0 ≤ 7293034 by omega) ?_
  refine Ok_rt m_thrown ?_
  refine And.intro (fun c => ?_) (fun c => absurd e0 c)
  refine And.intro (fun c2 => ?_) (fun c2 => ?_)
  · exact K g2 _ _ _ _ _ J2 (by omega) (by omega)
  · refine And.intro ⟨by decide, by decide⟩ ?_
    exact And.intro (fun c3 => K g2 _ _ _ _ _ J2 (by omega) (by omega)) (fun c3 => absurd (hq c2) c3)
theorem C_2264 (hX : HX X mcl_2264) (hZ : HZ X s l) (hs : ∀ j : Nat, (j : Int) < l → inR (s j)) (hi : (i : Int) + 6 ≤ l) (hl : l ≤ 3072) (hk : k ≤ 4000) (hn : n ≤ 100000) (J : JV h) (K : GO X i k n) : X 2264 [vR 900, vR 1, vR 50, vR 77, vR 78, vI (i : Int), t6, t7, t8] [] (LL MO) h k n := by
  refine hZ _ _ _ _ _ _ _ (fun zc => ?_)
  have e1 : h 900 ((i : Int) + 1).toNat = s (i + 1) := z_at (j := 1) zc hi (by decide)
  have e2 : h 900 ((i : Int) + 2).toNat = s (i + 2) := z_at (j := 2) zc hi (by decide)
  have e3 : h 900 ((i : Int) + 3).toNat = s (i + 3) := z_at (j := 3) zc hi (by decide)
  refine hX 100 [2289] 2264 _ _ _ _ _ _ ?_
  refine And.intro (show inR ((i : Int) + 1) from ⟨by omega, by omega⟩) ?_
  refine And.intro (show 0 ≤ (i : Int) + 1 ∧ (i : Int) + 1 < h 901 0 from ⟨by omega, by rw [zc.2]; omega⟩) ?_
  refine And.intro (show inR ((i : Int) + 2) from ⟨by omega, by omega⟩) ?_
  refine And.intro (show 0 ≤ (i : Int) + 2 ∧ (i : Int) + 2 < h 901 0 from ⟨by omega, by rw [zc.2]; omega⟩) ?_
  refine And.intro (show inR ((i : Int) + 3) from ⟨by omega, by omega⟩) ?_
  refine And.intro (show 0 ≤ (i : Int) + 3 ∧ (i : Int) + 3 < h 901 0 from ⟨by omega, by rw [zc.2]; omega⟩) ?_
  refine bnd_in (show k + 3 ≤ 601024 by omega) (show n + 18 ≤ 7293034 by omega) ?_
  show Ok 309 [vR 1, vI (h 900 ((i : Int) + 1).toNat), vI (h 900 ((i : Int) + 2).toNat), vI (h 900 ((i : Int) + 3).toNat), vR 77] (LL MO) h _
  rw [e1, e2, e3]
  refine Ok_mono (fun o Λ' g P => ?_) (P_grade J (hs _ (by omega)) (hs _ (by omega)))
  obtain ⟨rfl, k1, rfl, H2⟩ := P
  show X 2289 [vR 900, vR 1, vR 50, vR 77, vR 78, vI (i : Int), vI k1, t7, t8] [] (LL MO) g _ _
  refine hZ _ _ _ _ _ _ _ (fun zg => ?_)
  have f1 : g 900 ((i : Int) + 1).toNat = s (i + 1) := z_at (j := 1) zg hi (by decide)
  have f2 : g 900 ((i : Int) + 2).toNat = s (i + 2) := z_at (j := 2) zg hi (by decide)
  have f3 : g 900 ((i : Int) + 3).toNat = s (i + 3) := z_at (j := 3) zg hi (by decide)
  refine hX 100 [2720] 2289 _ _ _ _ _ _ ?_
  refine And.intro (show inR ((i : Int) + 1) from ⟨by omega, by omega⟩) ?_
  refine And.intro (show 0 ≤ (i : Int) + 1 ∧ (i : Int) + 1 < g 901 0 from ⟨by omega, by rw [zg.2]; omega⟩) ?_
  refine And.intro (show inR ((i : Int) + 2) from ⟨by omega, by omega⟩) ?_
  refine And.intro (show 0 ≤ (i : Int) + 2 ∧ (i : Int) + 2 < g 901 0 from ⟨by omega, by rw [zg.2]; omega⟩) ?_
  refine And.intro (show inR ((i : Int) + 3) from ⟨by omega, by omega⟩) ?_
  refine And.intro (show 0 ≤ (i : Int) + 3 ∧ (i : Int) + 3 < g 901 0 from ⟨by omega, by rw [zg.2]; omega⟩) ?_
  refine bnd_in (show k + 3 + 0 ≤ 601024 by omega) (show n + 18 + 0 ≤ 7293034 by omega) ?_
  show Ok 261 [vR 50, vI (g 900 ((i : Int) + 1).toNat), vI (g 900 ((i : Int) + 2).toNat), vI (g 900 ((i : Int) + 3).toNat)] (LL MO) g _
  rw [f1, f2, f3]
  refine Ok_mono (fun o Λ' g2 Q => ?_) H2
  obtain ⟨rfl, J2, e0, b, rfl, x, rfl, hq⟩ := Q
  refine bnd_in (show k + 3 + 0 + 0 ≤ 601024 by omega) (show n + 18 + 0 + 0 ≤ 7293034 by omega) ?_
  refine Ok_rt m_thrown ?_
  refine And.intro (fun c => ?_) (fun c => absurd e0 c)
  refine And.intro (fun c2 => ?_) (fun c2 => ?_)
  · exact K g2 _ _ _ _ _ J2 (by omega) (by omega)
  · refine And.intro ⟨by decide, by decide⟩ ?_
    exact And.intro (fun c3 => K g2 _ _ _ _ _ J2 (by omega) (by omega)) (fun c3 => absurd (hq c2) c3)
theorem C_2344 (hX : HX X mcl_2344) (hZ : HZ X s l) (hs : ∀ j : Nat, (j : Int) < l → inR (s j)) (hi : (i : Int) + 6 ≤ l) (hl : l ≤ 3072) (hk : k ≤ 4000) (hn : n ≤ 100000) (J : JV h) (K : GO X i k n) : X 2344 [vR 900, vR 1, vR 50, vR 77, vR 78, vI (i : Int), t6, t7, t8] [] (LL MO) h k n := by
  refine hZ _ _ _ _ _ _ _ (fun zc => ?_)
  have e1 : h 900 ((i : Int) + 1).toNat = s (i + 1) := z_at (j := 1) zc hi (by decide)
  have e2 : h 900 ((i : Int) + 2).toNat = s (i + 2) := z_at (j := 2) zc hi (by decide)
  have e3 : h 900 ((i : Int) + 3).toNat = s (i + 3) := z_at (j := 3) zc hi (by decide)
  refine hX 100 [2369] 2344 _ _ _ _ _ _ ?_
  refine And.intro (show inR ((i : Int) + 1) from ⟨by omega, by omega⟩) ?_
  refine And.intro (show 0 ≤ (i : Int) + 1 ∧ (i : Int) + 1 < h 901 0 from ⟨by omega, by rw [zc.2]; omega⟩) ?_
  refine And.intro (show inR ((i : Int) + 2) from ⟨by omega, by omega⟩) ?_
  refine And.intro (show 0 ≤ (i : Int) + 2 ∧ (i : Int) + 2 < h 901 0 from ⟨by omega, by rw [zc.2]; omega⟩) ?_
  refine And.intro (show inR ((i : Int) + 3) from ⟨by omega, by omega⟩) ?_
  refine And.intro (show 0 ≤ (i : Int) + 3 ∧ (i : Int) + 3 < h 901 0 from ⟨by omega, by rw [zc.2]; omega⟩) ?_
  refine bnd_in (show k + 4 ≤ 601024 by omega) (show n + 24 ≤ 7293034 by omega) ?_
  show Ok 310 [vR 1, vI (h 900 ((i : Int) + 1).toNat), vI (h 900 ((i : Int) + 2).toNat), vI (h 900 ((i : Int) + 3).toNat), vR 77] (LL MO) h _
  rw [e1, e2, e3]
  refine Ok_mono (fun o Λ' g P => ?_) (P_setEase J)
  obtain ⟨rfl, k1, rfl, H2⟩ := P
  show X 2369 [vR 900, vR 1, vR 50, vR 77, vR 78, vI (i : Int), vI k1, t7, t8] [] (LL MO) g _ _
  refine hZ _ _ _ _ _ _ _ (fun zg => ?_)
  have f1 : g 900 ((i : Int) + 1).toNat = s (i + 1) := z_at (j := 1) zg hi (by decide)
  have f2 : g 900 ((i : Int) + 2).toNat = s (i + 2) := z_at (j := 2) zg hi (by decide)
  have f3 : g 900 ((i : Int) + 3).toNat = s (i + 3) := z_at (j := 3) zg hi (by decide)
  refine hX 100 [2720] 2369 _ _ _ _ _ _ ?_
  refine And.intro (show inR ((i : Int) + 1) from ⟨by omega, by omega⟩) ?_
  refine And.intro (show 0 ≤ (i : Int) + 1 ∧ (i : Int) + 1 < g 901 0 from ⟨by omega, by rw [zg.2]; omega⟩) ?_
  refine And.intro (show inR ((i : Int) + 2) from ⟨by omega, by omega⟩) ?_
  refine And.intro (show 0 ≤ (i : Int) + 2 ∧ (i : Int) + 2 < g 901 0 from ⟨by omega, by rw [zg.2]; omega⟩) ?_
  refine And.intro (show inR ((i : Int) + 3) from ⟨by omega, by omega⟩) ?_
  refine And.intro (show 0 ≤ (i : Int) + 3 ∧ (i : Int) + 3 < g 901 0 from ⟨by omega, by rw [zg.2]; omega⟩) ?_
  refine bnd_in (show k + 4 + 0 ≤ 601024 by omega) (show n + 24 + 0 ≤ 7293034 by omega) ?_
  show Ok 262 [vR 50, vI (g 900 ((i : Int) + 1).toNat), vI (g 900 ((i : Int) + 2).toNat), vI (g 900 ((i : Int) + 3).toNat)] (LL MO) g _
  rw [f1, f2, f3]
  refine Ok_mono (fun o Λ' g2 Q => ?_) H2
  obtain ⟨rfl, J2, e0, b, rfl, x, rfl, hq⟩ := Q
  refine bnd_in (show k + 4 + 0 + 0 ≤ 601024 by omega) (show n + 24 + 0 + 0 ≤ 7293034 by omega) ?_
  refine Ok_rt m_thrown ?_
  refine And.intro (fun c => ?_) (fun c => absurd e0 c)
  refine And.intro (fun c2 => ?_) (fun c2 => ?_)
  · exact K g2 _ _ _ _ _ J2 (by omega) (by omega)
  · refine And.intro ⟨by decide, by decide⟩ ?_
    exact And.intro (fun c3 => K g2 _ _ _ _ _ J2 (by omega) (by omega)) (fun c3 => absurd (hq c2) c3)
theorem C_2424 (hX : HX X mcl_2424) (hZ : HZ X s l) (hs : ∀ j : Nat, (j : Int) < l → inR (s j)) (hi : (i : Int) + 6 ≤ l) (hl : l ≤ 3072) (hk : k ≤ 4000) (hn : n ≤ 100000) (J : JV h) (K : GO X i k n) : X 2424 [vR 900, vR 1, vR 50, vR 77, vR 78, vI (i : Int), t6, t7, t8] [] (LL MO) h k n := by
  refine hZ _ _ _ _ _ _ _ (fun zc => ?_)
  have e1 : h 900 ((i : Int) + 1).toNat = s (i + 1) := z_at (j := 1) zc hi (by decide)
  have e2 : h 900 ((i : Int) + 2).toNat = s (i + 2) := z_at (j := 2) zc hi (by decide)
  refine hX 100 [2443] 2424 _ _ _ _ _ _ ?_
  refine And.intro (show inR ((i : Int) + 1) from ⟨by omega, by omega⟩) ?_
  refine And.intro (show 0 ≤ (i : Int) + 1 ∧ (i : Int) + 1 < h 901 0 from ⟨by omega, by rw [zc.2]; omega⟩) ?_
  refine And.intro (show inR ((i : Int) + 2) from ⟨by omega, by omega⟩) ?_
  refine And.intro (show 0 ≤ (i : Int) + 2 ∧ (i : Int) + 2 < h 901 0 from ⟨by omega, by rw [zc.2]; omega⟩) ?_
  refine bnd_in (show k + 3 ≤ 601024 by omega) (show n + 18 ≤ 7293034 by omega) ?_
  show Ok 311 [vR 1, vI (h 900 ((i : Int) + 1).toNat), vI (h 900 ((i : Int) + 2).toNat), vR 77] (LL MO) h _
  rw [e1, e2]
  refine Ok_mono (fun o Λ' g P => ?_) (P_addLot J)
  obtain ⟨rfl, k1, rfl, H2⟩ := P
  show X 2443 [vR 900, vR 1, vR 50, vR 77, vR 78, vI (i : Int), vI k1, t7, t8] [] (LL MO) g _ _
  refine hZ _ _ _ _ _ _ _ (fun zg => ?_)
  have f1 : g 900 ((i : Int) + 1).toNat = s (i + 1) := z_at (j := 1) zg hi (by decide)
  have f2 : g 900 ((i : Int) + 2).toNat = s (i + 2) := z_at (j := 2) zg hi (by decide)
  refine hX 100 [2720] 2443 _ _ _ _ _ _ ?_
  refine And.intro (show inR ((i : Int) + 1) from ⟨by omega, by omega⟩) ?_
  refine And.intro (show 0 ≤ (i : Int) + 1 ∧ (i : Int) + 1 < g 901 0 from ⟨by omega, by rw [zg.2]; omega⟩) ?_
  refine And.intro (show inR ((i : Int) + 2) from ⟨by omega, by omega⟩) ?_
  refine And.intro (show 0 ≤ (i : Int) + 2 ∧ (i : Int) + 2 < g 901 0 from ⟨by omega, by rw [zg.2]; omega⟩) ?_
  refine bnd_in (show k + 3 + 0 ≤ 601024 by omega) (show n + 18 + 0 ≤ 7293034 by omega) ?_
  show Ok 263 [vR 50, vI (g 900 ((i : Int) + 1).toNat), vI (g 900 ((i : Int) + 2).toNat)] (LL MO) g _
  rw [f1, f2]
  refine Ok_mono (fun o Λ' g2 Q => ?_) H2
  obtain ⟨rfl, J2, e0, b, rfl, x, rfl, hq⟩ := Q
  refine bnd_in (show k + 3 + 0 + 0 ≤ 601024 by omega) (show n + 18 + 0 + 0 ≤ 7293034 by omega) ?_
  refine Ok_rt m_thrown ?_
  refine And.intro (fun c => ?_) (fun c => absurd e0 c)
  refine And.intro (fun c2 => ?_) (fun c2 => ?_)
  · exact K g2 _ _ _ _ _ J2 (by omega) (by omega)
  · refine And.intro ⟨by decide, by decide⟩ ?_
    exact And.intro (fun c3 => K g2 _ _ _ _ _ J2 (by omega) (by omega)) (fun c3 => absurd (hq c2) c3)
theorem C_2492 (hX : HX X mcl_2492) (hZ : HZ X s l) (hs : ∀ j : Nat, (j : Int) < l → inR (s j)) (hi : (i : Int) + 6 ≤ l) (hl : l ≤ 3072) (hk : k ≤ 4000) (hn : n ≤ 100000) (J : JV h) (K : GO X i k n) : X 2492 [vR 900, vR 1, vR 50, vR 77, vR 78, vI (i : Int), t6, t7, t8] [] (LL MO) h k n := by
  refine hZ _ _ _ _ _ _ _ (fun zc => ?_)
  have e1 : h 900 ((i : Int) + 1).toNat = s (i + 1) := z_at (j := 1) zc hi (by decide)
  refine hX 100 [2505] 2492 _ _ _ _ _ _ ?_
  refine And.intro (show inR ((i : Int) + 1) from ⟨by omega, by omega⟩) ?_
  refine And.intro (show 0 ≤ (i : Int) + 1 ∧ (i : Int) + 1 < h 901 0 from ⟨by omega, by rw [zc.2]; omega⟩) ?_
  refine bnd_in (show k + 1 ≤ 601024 by omega) (show n + 6 ≤ 7293034 by omega) ?_
  show Ok 312 [vR 1, vI (h 900 ((i : Int) + 1).toNat), vR 77] (LL MO) h _
  rw [e1]
  refine Ok_mono (fun o Λ' g P => ?_) (P_removeLot J)
  obtain ⟨rfl, k1, rfl, H2⟩ := P
  show X 2505 [vR 900, vR 1, vR 50, vR 77, vR 78, vI (i : Int), vI k1, t7, t8] [] (LL MO) g _ _
  refine hZ _ _ _ _ _ _ _ (fun zg => ?_)
  have f1 : g 900 ((i : Int) + 1).toNat = s (i + 1) := z_at (j := 1) zg hi (by decide)
  refine hX 100 [2720] 2505 _ _ _ _ _ _ ?_
  refine And.intro (show inR ((i : Int) + 1) from ⟨by omega, by omega⟩) ?_
  refine And.intro (show 0 ≤ (i : Int) + 1 ∧ (i : Int) + 1 < g 901 0 from ⟨by omega, by rw [zg.2]; omega⟩) ?_
  refine bnd_in (show k + 1 + 0 ≤ 601024 by omega) (show n + 6 + 0 ≤ 7293034 by omega) ?_
  show Ok 264 [vR 50, vI (g 900 ((i : Int) + 1).toNat)] (LL MO) g _
  rw [f1]
  refine Ok_mono (fun o Λ' g2 Q => ?_) H2
  obtain ⟨rfl, J2, e0, b, rfl, x, rfl, hq⟩ := Q
  refine bnd_in (show k + 1 + 0 + 0 ≤ 601024 by omega) (show n + 6 + 0 + 0 ≤ 7293034 by omega) ?_
  refine Ok_rt m_thrown ?_
  refine And.intro (fun c => ?_) (fun c => absurd e0 c)
  refine And.intro (fun c2 => ?_) (fun c2 => ?_)
  · exact K g2 _ _ _ _ _ J2 (by omega) (by omega)
  · refine And.intro ⟨by decide, by decide⟩ ?_
    exact And.intro (fun c3 => K g2 _ _ _ _ _ J2 (by omega) (by omega)) (fun c3 => absurd (hq c2) c3)
theorem C_2548 (hX : HX X mcl_2548) (hZ : HZ X s l) (hs : ∀ j : Nat, (j : Int) < l → inR (s j)) (hi : (i : Int) + 6 ≤ l) (hl : l ≤ 3072) (hk : k ≤ 4000) (hn : n ≤ 100000) (J : JV h) (K : GO X i k n) : X 2548 [vR 900, vR 1, vR 50, vR 77, vR 78, vI (i : Int), t6, t7, t8] [] (LL MO) h k n := by
  refine hZ _ _ _ _ _ _ _ (fun zc => ?_)
  refine hX 100 [2555] 2548 _ _ _ _ _ _ ?_
  refine bnd_in (show k + 1 ≤ 601024 by omega) (show n + 6 ≤ 7293034 by omega) ?_
  show Ok 313 [vR 1, vR 77] (LL MO) h _
  refine Ok_mono (fun o Λ' g P => ?_) (P_undo J)
  obtain ⟨rfl, k1, rfl, H2⟩ := P
  show X 2555 [vR 900, vR 1, vR 50, vR 77, vR 78, vI (i : Int), vI k1, t7, t8] [] (LL MO) g _ _
  refine hZ _ _ _ _ _ _ _ (fun zg => ?_)
  refine hX 100 [2720] 2555 _ _ _ _ _ _ ?_
  refine bnd_in (show k + 1 + 0 ≤ 601024 by omega) (show n + 6 + 0 ≤ 7293034 by omega) ?_
  show Ok 265 [vR 50] (LL MO) g _
  refine Ok_mono (fun o Λ' g2 Q => ?_) H2
  obtain ⟨rfl, J2, e0, b, rfl, x, rfl, hq⟩ := Q
  refine bnd_in (show k + 1 + 0 + 0 ≤ 601024 by omega) (show n + 6 + 0 + 0 ≤ 7293034 by omega) ?_
  refine Ok_rt m_thrown ?_
  refine And.intro (fun c => ?_) (fun c => absurd e0 c)
  refine And.intro (fun c2 => ?_) (fun c2 => ?_)
  · exact K g2 _ _ _ _ _ J2 (by omega) (by omega)
  · refine And.intro ⟨by decide, by decide⟩ ?_
    exact And.intro (fun c3 => K g2 _ _ _ _ _ J2 (by omega) (by omega)) (fun c3 => absurd (hq c2) c3)
theorem C_2592 (hX : HX X mcl_2592) (hZ : HZ X s l) (hs : ∀ j : Nat, (j : Int) < l → inR (s j)) (hi : (i : Int) + 6 ≤ l) (hl : l ≤ 3072) (hk : k ≤ 4000) (hn : n ≤ 100000) (J : JV h) (K : GO X i k n) : X 2592 [vR 900, vR 1, vR 50, vR 77, vR 78, vI (i : Int), t6, t7, t8] [] (LL MO) h k n := by
  refine hZ _ _ _ _ _ _ _ (fun zc => ?_)
  have e1 : h 900 ((i : Int) + 1).toNat = s (i + 1) := z_at (j := 1) zc hi (by decide)
  refine hX 100 [2604] 2592 _ _ _ _ _ _ ?_
  refine And.intro (show inR ((i : Int) + 1) from ⟨by omega, by omega⟩) ?_
  refine And.intro (show 0 ≤ (i : Int) + 1 ∧ (i : Int) + 1 < h 901 0 from ⟨by omega, by rw [zc.2]; omega⟩) ?_
  refine bnd_in (show k + 1 ≤ 601024 by omega) (show n + 6 ≤ 7293034 by omega) ?_
  show Ok 314 [vR 1, vI (h 900 ((i : Int) + 1).toNat)] (LL MO) h _
  rw [e1]
  refine Ok_mono (fun o Λ' g P => ?_) (P_save J)
  obtain ⟨rfl, k1, rfl, H2⟩ := P
  show X 2604 [vR 900, vR 1, vR 50, vR 77, vR 78, vI (i : Int), vI k1, t7, t8] [] (LL MO) g _ _
  refine hZ _ _ _ _ _ _ _ (fun zg => ?_)
  have f1 : g 900 ((i : Int) + 1).toNat = s (i + 1) := z_at (j := 1) zg hi (by decide)
  refine hX 100 [2720] 2604 _ _ _ _ _ _ ?_
  refine And.intro (show inR ((i : Int) + 1) from ⟨by omega, by omega⟩) ?_
  refine And.intro (show 0 ≤ (i : Int) + 1 ∧ (i : Int) + 1 < g 901 0 from ⟨by omega, by rw [zg.2]; omega⟩) ?_
  refine bnd_in (show k + 1 + 0 ≤ 601024 by omega) (show n + 6 + 0 ≤ 7293034 by omega) ?_
  show Ok 267 [vR 50, vI (g 900 ((i : Int) + 1).toNat)] (LL MO) g _
  rw [f1]
  refine Ok_mono (fun o Λ' g2 Q => ?_) H2
  obtain ⟨rfl, J2, e0, b, rfl, rfl⟩ := Q
  refine bnd_in (show k + 1 + 0 + 0 ≤ 601024 by omega) (show n + 6 + 0 + 0 ≤ 7293034 by omega) ?_
  refine Ok_rt m_thrown ?_
  exact And.intro (fun c => K g2 _ _ _ _ _ J2 (by omega) (by omega)) (fun c => absurd e0 c)
theorem C_2628 (hX : HX X mcl_2628) (hZ : HZ X s l) (hs : ∀ j : Nat, (j : Int) < l → inR (s j)) (hi : (i : Int) + 6 ≤ l) (hl : l ≤ 3072) (hk : k ≤ 4000) (hn : n ≤ 100000) (J : JV h) (K : GO X i k n) : X 2628 [vR 900, vR 1, vR 50, vR 77, vR 78, vI (i : Int), t6, t7, t8] [] (LL MO) h k n := by
  refine hZ _ _ _ _ _ _ _ (fun zc => ?_)
  have e1 : h 900 ((i : Int) + 1).toNat = s (i + 1) := z_at (j := 1) zc hi (by decide)
  refine hX 100 [2640] 2628 _ _ _ _ _ _ ?_
  refine And.intro (show inR ((i : Int) + 1) from ⟨by omega, by omega⟩) ?_
  refine And.intro (show 0 ≤ (i : Int) + 1 ∧ (i : Int) + 1 < h 901 0 from ⟨by omega, by rw [zc.2]; omega⟩) ?_
  refine bnd_in (show k + 2 ≤ 601024 by omega) (show n + 12 ≤ 7293034 by omega) ?_
  show Ok 315 [vR 1, vI (h 900 ((i : Int) + 1).toNat)] (LL MO) h _
  rw [e1]
  refine Ok_mono (fun o Λ' g P => ?_) (P_restore J)
  obtain ⟨rfl, k1, rfl, H2⟩ := P
  show X 2640 [vR 900, vR 1, vR 50, vR 77, vR 78, vI (i : Int), vI k1, t7, t8] [] (LL MO) g _ _
  refine hZ _ _ _ _ _ _ _ (fun zg => ?_)
  have f1 : g 900 ((i : Int) + 1).toNat = s (i + 1) := z_at (j := 1) zg hi (by decide)
  refine hX 100 [2720] 2640 _ _ _ _ _ _ ?_
  refine And.intro (show inR ((i : Int) + 1) from ⟨by omega, by omega⟩) ?_
  refine And.intro (show 0 ≤ (i : Int) + 1 ∧ (i : Int) + 1 < g 901 0 from ⟨by omega, by rw [zg.2]; omega⟩) ?_
  refine bnd_in (show k + 2 + 0 ≤ 601024 by omega) (show n + 12 + 0 ≤ 7293034 by omega) ?_
  show Ok 268 [vR 50, vI (g 900 ((i : Int) + 1).toNat)] (LL MO) g _
  rw [f1]
  refine Ok_mono (fun o Λ' g2 Q => ?_) H2
  obtain ⟨rfl, J2, e0, b, rfl, rfl⟩ := Q
  refine bnd_in (show k + 2 + 0 + 0 ≤ 601024 by omega) (show n + 12 + 0 + 0 ≤ 7293034 by omega) ?_
  refine Ok_rt m_thrown ?_
  exact And.intro (fun c => K g2 _ _ _ _ _ J2 (by omega) (by omega)) (fun c => absurd e0 c)
theorem C_2664 (hX : HX X mcl_2664) (hZ : HZ X s l) (hs : ∀ j : Nat, (j : Int) < l → inR (s j)) (hi : (i : Int) + 6 ≤ l) (hl : l ≤ 3072) (hk : k ≤ 4000) (hn : n ≤ 100000) (J : JV h) (K : GO X i k n) : X 2664 [vR 900, vR 1, vR 50, vR 77, vR 78, vI (i : Int), t6, t7, t8] [] (LL MO) h k n := by
  refine hZ _ _ _ _ _ _ _ (fun zc => ?_)
  have e1 : h 900 ((i : Int) + 1).toNat = s (i + 1) := z_at (j := 1) zc hi (by decide)
  refine hX 100 [2677] 2664 _ _ _ _ _ _ ?_
  refine And.intro (show inR ((i : Int) + 1) from ⟨by omega, by omega⟩) ?_
  refine And.intro (show 0 ≤ (i : Int) + 1 ∧ (i : Int) + 1 < h 901 0 from ⟨by omega, by rw [zc.2]; omega⟩) ?_
  refine bnd_in (show k + 2 ≤ 601024 by omega) (show n + 12 ≤ 7293034 by omega) ?_
  show Ok 316 [vR 1, vI (h 900 ((i : Int) + 1).toNat), vR 77] (LL MO) h _
  rw [e1]
  refine Ok_mono (fun o Λ' g P => ?_) (P_differences J)
  obtain ⟨rfl, k1, rfl, H2⟩ := P
  show X 2677 [vR 900, vR 1, vR 50, vR 77, vR 78, vI (i : Int), vI k1, t7, t8] [] (LL MO) g _ _
  refine hZ _ _ _ _ _ _ _ (fun zg => ?_)
  have f1 : g 900 ((i : Int) + 1).toNat = s (i + 1) := z_at (j := 1) zg hi (by decide)
  refine hX 100 [2720] 2677 _ _ _ _ _ _ ?_
  refine And.intro (show inR ((i : Int) + 1) from ⟨by omega, by omega⟩) ?_
  refine And.intro (show 0 ≤ (i : Int) + 1 ∧ (i : Int) + 1 < g 901 0 from ⟨by omega, by rw [zg.2]; omega⟩) ?_
  refine bnd_in (show k + 2 + 0 ≤ 601024 by omega) (show n + 12 + 0 ≤ 7293034 by omega) ?_
  show Ok 270 [vR 50, vI (g 900 ((i : Int) + 1).toNat)] (LL MO) g _
  rw [f1]
  refine Ok_mono (fun o Λ' g2 Q => ?_) H2
  obtain ⟨rfl, J2, e0, b, rfl, x, rfl, hq⟩ := Q
  refine bnd_in (show k + 2 + 0 + 0 ≤ 601024 by omega) (show n + 12 + 0 + 0 ≤ 7293034 by omega) ?_
  refine Ok_rt m_thrown ?_
  refine And.intro (fun c => ?_) (fun c => absurd e0 c)
  refine And.intro (fun c2 => ?_) (fun c2 => ?_)
  · exact K g2 _ _ _ _ _ J2 (by omega) (by omega)
  · refine And.intro ⟨by decide, by decide⟩ ?_
    exact And.intro (fun c3 => K g2 _ _ _ _ _ J2 (by omega) (by omega)) (fun c3 => absurd (hq c2) c3)
end LAW2
