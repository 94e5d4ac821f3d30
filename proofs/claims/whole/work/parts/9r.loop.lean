/-! ===== the law's loop and its head (by mk9r.py) ===== -/
def MLs : List MC := [mcl_0, mcl_212, mcl_316, mcl_372, mcl_416, mcl_429, mcl_442, mcl_498, mcl_554, mcl_622, mcl_685, mcl_753, mcl_821, mcl_917, mcl_997, mcl_1053, mcl_1121, mcl_1189, mcl_1269, mcl_1349, mcl_1429, mcl_1525, mcl_1617, mcl_1719, mcl_1808, mcl_1887, mcl_1955, mcl_2035, mcl_2091, mcl_2104, mcl_2184, mcl_2264, mcl_2344, mcl_2424, mcl_2492, mcl_2548, mcl_2592, mcl_2628, mcl_2664, mcl_2720]
section LAW3
variable {X : XT} {s : Nat → Int} {l : Int}
theorem go_on {i k n : Nat} (hX : HX X mcl_2720) (hl : (i : Int) ≤ 4000) (N : ∀ (h : HP) (t6 t7 t8 : PV) (k' n' : Nat), JV h → k' ≤ k + 5 → n' ≤ n + 30 → X 28 [vR 900, vR 1, vR 50, vR 77, vR 78, vI ((i + 6 : Nat) : Int), t6, t7, t8] [] (LL MO) h k' n') : GO X i k n := by
  intro h t6 t7 t8 k' n' J a b
  refine hX 20 [28] 2720 _ _ _ _ _ _ ?_
  refine And.intro (show inR ((i : Int) + 6) from ⟨by omega, by omega⟩) ?_
  show X 28 [vR 900, vR 1, vR 50, vR 77, vR 78, vI ((i : Int) + 6), t6, t7, t8] [] (LL MO) h k' n'
  have e : ((i : Int) + 6) = ((i + 6 : Nat) : Int) := by omega
  rw [e]
  exact N h t6 t7 t8 k' n' J a b
theorem law_loop (A : ∀ M, M ∈ MLs → HX X M) (hZ : HZ X s l) (hs : ∀ j : Nat, (j : Int) < l → inR (s j)) (l0 : 0 ≤ l) (hl : l ≤ 3072) : ∀ (m i k n : Nat) (h : HP) (t6 t7 t8 : PV), l ≤ (i : Int) + 6 * (m : Int) → (i : Int) ≤ 4000 → k + 5 * m ≤ 4000 → n + 30 * m ≤ 100000 → JV h → X 28 [vR 900, vR 1, vR 50, vR 77, vR 78, vI (i : Int), t6, t7, t8] [] (LL MO) h k n := by
  intro m
  induction m with
  | zero =>
    intro i k n h t6 t7 t8 hm h4 hk hn J
    refine hZ _ _ _ _ _ _ _ (fun zc => ?_)
    refine (A _ (List.mem_of_getElem? (i := 0) rfl)) 60 [2726, 2720, 38] 28 _ _ _ _ _ _ ?_
    refine And.intro (show inR (h 901 0 - 6) from by rw [zc.2]; exact ⟨by omega, by omega⟩) ?_
    refine And.intro (fun c => ?_) (fun c => ?_)
    · refine (A _ (List.mem_of_getElem? (i := 39) rfl)) 20 [] 2726 _ _ _ _ _ _ ?_
      refine And.intro ⟨by decide, by decide⟩ ?_
      exact bnd_in (show k ≤ 601024 by omega) (show n ≤ 7293034 by omega) rfl
    · have c2 : (i : Int) ≤ h 901 0 - 6 := c
      rw [zc.2] at c2
      omega
  | succ m ih =>
    intro i k n h t6 t7 t8 hm h4 hk hn J
    refine hZ _ _ _ _ _ _ _ (fun zc => ?_)
    refine (A _ (List.mem_of_getElem? (i := 0) rfl)) 60 [2726, 38] 28 _ _ _ _ _ _ ?_
    refine And.intro (show inR (h 901 0 - 6) from by rw [zc.2]; exact ⟨by omega, by omega⟩) ?_
    refine And.intro (fun c => ?_) (fun c => ?_)
    · refine (A _ (List.mem_of_getElem? (i := 39) rfl)) 20 [] 2726 _ _ _ _ _ _ ?_
      refine And.intro ⟨by decide, by decide⟩ ?_
      exact bnd_in (show k ≤ 601024 by omega) (show n ≤ 7293034 by omega) rfl
    · have c2 : (i : Int) ≤ h 901 0 - 6 := c
      have hi : (i : Int) + 6 ≤ l := by rw [zc.2] at c2; omega
      have K : GO X i k n := go_on (A _ (List.mem_of_getElem? (i := 39) rfl)) h4 (fun h' a b d k' n' J' hk' hn' => ih (i + 6) k' n' h' a b d (by omega) (by omega) (by omega) (by omega) J')
      refine (A _ (List.mem_of_getElem? (i := 0) rfl)) 60 [2720, 212, 316, 372, 416, 429, 442, 498, 554, 622, 685, 753, 821, 917, 997, 1053, 1121, 1189, 1269, 1349, 1429, 1525, 1617, 1719, 1808, 1887, 1955, 2035, 2091, 2104, 2184, 2264, 2344, 2424, 2492, 2548, 2592, 2628, 2664] 38 _ _ _ _ _ _ ?_
      refine And.intro (show 0 ≤ (i : Int) ∧ (i : Int) < h 901 0 from ⟨by omega, by rw [zc.2]; omega⟩) ?_
      refine And.intro (fun _ => K h _ _ _ _ _ J (by omega) (by omega)) ?_
      refine And.intro (fun _ => C_212 (A _ (List.mem_of_getElem? (i := 1) rfl)) hZ hs hi hl (by omega) (by omega) J K) ?_
      refine And.intro (fun _ => C_316 (A _ (List.mem_of_getElem? (i := 2) rfl)) hZ hs hi hl (by omega) (by omega) J K) ?_
      refine And.intro (fun _ => C_372 (A _ (List.mem_of_getElem? (i := 3) rfl)) hZ hs hi hl (by omega) (by omega) J K) ?_
      refine And.intro (fun _ => C_416 (A _ (List.mem_of_getElem? (i := 4) rfl)) hZ hs hi hl (by omega) (by omega) J K) ?_
      refine And.intro (fun _ => C_429 (A _ (List.mem_of_getElem? (i := 5) rfl)) hZ hs hi hl (by omega) (by omega) J K) ?_
      refine And.intro (fun _ => C_442 (A _ (List.mem_of_getElem? (i := 6) rfl)) hZ hs hi hl (by omega) (by omega) J K) ?_
      refine And.intro (fun _ => C_498 (A _ (List.mem_of_getElem? (i := 7) rfl)) hZ hs hi hl (by omega) (by omega) J K) ?_
      refine And.intro (fun _ => C_554 (A _ (List.mem_of_getElem? (i := 8) rfl)) hZ hs hi hl (by omega) (by omega) J K) ?_
      refine And.intro (fun _ => C_622 (A _ (List.mem_of_getElem? (i := 9) rfl)) hZ hs hi hl (by omega) (by omega) J K) ?_
      refine And.intro (fun _ => C_685 (A _ (List.mem_of_getElem? (i := 10) rfl)) hZ hs hi hl (by omega) (by omega) J K) ?_
      refine And.intro (fun _ => C_753 (A _ (List.mem_of_getElem? (i := 11) rfl)) hZ hs hi hl (by omega) (by omega) J K) ?_
      refine And.intro (fun _ => C_821 (A _ (List.mem_of_getElem? (i := 12) rfl)) hZ hs hi hl (by omega) (by omega) J K) ?_
      refine And.intro (fun _ => C_917 (A _ (List.mem_of_getElem? (i := 13) rfl)) hZ hs hi hl (by omega) (by omega) J K) ?_
      refine And.intro (fun _ => C_997 (A _ (List.mem_of_getElem? (i := 14) rfl)) hZ hs hi hl (by omega) (by omega) J K) ?_
      refine And.intro (fun _ => C_1053 (A _ (List.mem_of_getElem? (i := 15) rfl)) hZ hs hi hl (by omega) (by omega) J K) ?_
      refine And.intro (fun _ => C_1121 (A _ (List.mem_of_getElem? (i := 16) rfl)) hZ hs hi hl (by omega) (by omega) J K) ?_
      refine And.intro (fun _ => C_1189 (A _ (List.mem_of_getElem? (i := 17) rfl)) hZ hs hi hl (by omega) (by omega) J K) ?_
      refine And.intro (fun _ => C_1269 (A _ (List.mem_of_getElem? (i := 18) rfl)) hZ hs hi hl (by omega) (by omega) J K) ?_
      refine And.intro (fun _ => C_1349 (A _ (List.mem_of_getElem? (i := 19) rfl)) hZ hs hi hl (by omega) (by omega) J K) ?_
      refine And.intro (fun _ => C_1429 (A _ (List.mem_of_getElem? (i := 20) rfl)) hZ hs hi hl (by omega) (by omega) J K) ?_
      refine And.intro (fun _ => C_1525 (A _ (List.mem_of_getElem? (i := 21) rfl)) hZ hs hi hl (by omega) (by omega) J K) ?_
      refine And.intro (fun _ => C_1617 (A _ (List.mem_of_getElem? (i := 22) rfl)) hZ hs hi hl (by omega) (by omega) J K) ?_
      refine And.intro (fun _ => C_1719 (A _ (List.mem_of_getElem? (i := 23) rfl)) hZ hs hi hl (by omega) (by omega) J K) ?_
      refine And.intro (fun _ => C_1808 (A _ (List.mem_of_getElem? (i := 24) rfl)) hZ hs hi hl (by omega) (by omega) J K) ?_
      refine And.intro (fun _ => C_1887 (A _ (List.mem_of_getElem? (i := 25) rfl)) hZ hs hi hl (by omega) (by omega) J K) ?_
      refine And.intro (fun _ => C_1955 (A _ (List.mem_of_getElem? (i := 26) rfl)) hZ hs hi hl (by omega) (by omega) J K) ?_
      refine And.intro (fun _ => C_2035 (A _ (List.mem_of_getElem? (i := 27) rfl)) hZ hs hi hl (by omega) (by omega) J K) ?_
      refine And.intro (fun _ => C_2091 (A _ (List.mem_of_getElem? (i := 28) rfl)) hZ hs hi hl (by omega) (by omega) J K) ?_
      refine And.intro (fun _ => C_2104 (A _ (List.mem_of_getElem? (i := 29) rfl)) hZ hs hi hl (by omega) (by omega) J K) ?_
      refine And.intro (fun _ => C_2184 (A _ (List.mem_of_getElem? (i := 30) rfl)) hZ hs hi hl (by omega) (by omega) J K) ?_
      refine And.intro (fun _ => C_2264 (A _ (List.mem_of_getElem? (i := 31) rfl)) hZ hs hi hl (by omega) (by omega) J K) ?_
      refine And.intro (fun _ => C_2344 (A _ (List.mem_of_getElem? (i := 32) rfl)) hZ hs hi hl (by omega) (by omega) J K) ?_
      refine And.intro (fun _ => C_2424 (A _ (List.mem_of_getElem? (i := 33) rfl)) hZ hs hi hl (by omega) (by omega) J K) ?_
      refine And.intro (fun _ => C_2492 (A _ (List.mem_of_getElem? (i := 34) rfl)) hZ hs hi hl (by omega) (by omega) J K) ?_
      refine And.intro (fun _ => C_2548 (A _ (List.mem_of_getElem? (i := 35) rfl)) hZ hs hi hl (by omega) (by omega) J K) ?_
      refine And.intro (fun _ => C_2592 (A _ (List.mem_of_getElem? (i := 36) rfl)) hZ hs hi hl (by omega) (by omega) J K) ?_
      refine And.intro (fun _ => C_2628 (A _ (List.mem_of_getElem? (i := 37) rfl)) hZ hs hi hl (by omega) (by omega) J K) ?_
      refine And.intro (fun _ => C_2664 (A _ (List.mem_of_getElem? (i := 38) rfl)) hZ hs hi hl (by omega) (by omega) J K) ?_
      exact True.intro
theorem hM_c {c : Nat} (hc : 77 ≤ c) : hM c = fun _ => 0 := by
  unfold hM
  rw [bg_cells.1 c (by omega) (by omega), hL_cell (by omega) (by omega) (by omega) (by omega) (by omega)]
  exact hC_c (by omega)
/-- the law answers true -/
theorem law_run (A : ∀ M, M ∈ MLs → HX X M) (hZ : HZ X s l) (hs : ∀ j : Nat, (j : Int) < l → inR (s j)) (l0 : 0 ≤ l) (hl : l ≤ 3072) : X 0 [vR 900, vU, vU, vU, vU, vU, vU, vU, vU] [] [] (zS s l hO) 0 0 := by
  refine (A _ (List.mem_of_getElem? (i := 0) rfl)) 20 [3] 0 _ _ _ _ _ _ ?_
  show X 3 [vR 900, vU, vU, vU, vU, vU, vU, vU, vU] [vR 1] [.inl (7, List.replicate 15 0)] (upA (zS s l hO) 1 (fun _ => 0)) _ _
  rw [upA_id (z_c hO (by decide))]
  refine (A _ (List.mem_of_getElem? (i := 0) rfl)) 20 [7] 3 _ _ _ _ _ _ ?_
  refine Ok_rt K_new ?_
  show X 7 [vR 900, vU, vU, vU, vU, vU, vU, vU, vU] [vR 1] (LC []) (zS s l hC) _ _
  refine (A _ (List.mem_of_getElem? (i := 0) rfl)) 20 [11] 7 _ _ _ _ _ _ ?_
  show X 11 [vR 900, vR 1, vU, vU, vU, vU, vU, vU, vU] [vR 50] (LC [.inl (8, List.replicate 48 0)]) (upA (zS s l hC) 50 (fun _ => 0)) _ _
  rw [upA_id ((z_c hC (by decide)).trans (hC_c (by decide)))]
  refine (A _ (List.mem_of_getElem? (i := 0) rfl)) 20 [15] 11 _ _ _ _ _ _ ?_
  refine Ok_rt m_new ?_
  show X 15 [vR 900, vR 1, vU, vU, vU, vU, vU, vU, vU] [vR 50] (LL []) (zS s l hM) _ _
  refine (A _ (List.mem_of_getElem? (i := 0) rfl)) 20 [19] 15 _ _ _ _ _ _ ?_
  show X 19 [vR 900, vR 1, vR 50, vU, vU, vU, vU, vU, vU] [vR 77] (LL [.inr (1, 1)]) (upA (zS s l hM) 77 (fun _ => 0)) _ _
  rw [upA_id ((z_c hM (by decide)).trans (hM_c (by decide)))]
  refine (A _ (List.mem_of_getElem? (i := 0) rfl)) 20 [23] 19 _ _ _ _ _ _ ?_
  show X 23 [vR 900, vR 1, vR 50, vR 77, vU, vU, vU, vU, vU] [vR 78] (LL MO) (upA (zS s l hM) 78 (fun _ => 0)) _ _
  rw [upA_id ((z_c hM (by decide)).trans (hM_c (by decide)))]
  refine (A _ (List.mem_of_getElem? (i := 0) rfl)) 20 [28] 23 _ _ _ _ _ _ ?_
  show X 28 [vR 900, vR 1, vR 50, vR 77, vR 78, vI ((0 : Nat) : Int), vU, vU, vU] [] (LL MO) (zS s l hM) 78 70497
  exact law_loop A hZ hs l0 hl 512 0 78 70497 _ _ _ _ (by omega) (by decide) (by decide) (by decide) (JV_zS JV_M0)
end LAW3
