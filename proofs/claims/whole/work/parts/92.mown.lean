/-! ===== the model: a name of its own ===== -/
theorem capI_fs {i : Nat} (hi : i < 4) : (fsI i : Int) + capI (i : Int) ≤ 24 ∧ 1 ≤ capI (i : Int) ∧ capI (i : Int) ≤ 8 := by
  have c4 : i = 0 ∨ i = 1 ∨ i = 2 ∨ i = 3 := by omega
  rcases c4 with rfl | rfl | rfl | rfl <;> decide
theorem fs_ne {i j a b : Nat} (hi : i < 4) (hj : j < 4) (ha : (a : Int) < capI (i : Int)) (hb : (b : Int) < capI (j : Int)) (n : ¬ (i = j ∧ a = b)) : fsI i + a ≠ fsI j + b := by
  have c4 : i = 0 ∨ i = 1 ∨ i = 2 ∨ i = 3 := by omega
  have c5 : j = 0 ∨ j = 1 ∨ j = 2 ∨ j = 3 := by omega
  have f0 : fsI 0 = 0 := rfl
  have f1 : fsI 1 = 6 := rfl
  have f2 : fsI 2 = 14 := rfl
  have f3 : fsI 3 = 18 := rfl
  have p0 : capI ((0 : Nat) : Int) = 6 := rfl
  have p1 : capI ((1 : Nat) : Int) = 8 := rfl
  have p2 : capI ((2 : Nat) : Int) = 4 := rfl
  have p3 : capI ((3 : Nat) : Int) = 6 := rfl
  rcases c4 with rfl | rfl | rfl | rfl <;> rcases c5 with rfl | rfl | rfl | rfl <;> omega
/-- the cells of the class's names behind a new one -/
theorem addName_6 {h : HP} {i w : Int} : addNameH h 5 i w 6 = wrA h 6 32 (i * 8 + rdA h 7 4 i) w 6 := by
  have e : addNameN h 5 i w (rdA h (5 + 2) 4 i) 6 = wrA h 6 32 (i * 8 + rdA h 7 4 i) w 6 := by
    unfold addNameN
    rw [wrA_cell (by decide)]
  unfold addNameH
  split
  · split
    · rw [wrA_cell (by decide), wrA_cell (by decide)]; exact e
    · rw [wrA_cell (by decide)]; exact e
  · split
    · rw [wrA_cell (by decide)]; exact e
    · exact e
/-- the model's names behind a new one at row j -/
def nwN (g : HP) (j : Nat) (m : Nat) : HP := fun c p => if c = 68 ∧ 8 * j ≤ p ∧ p < 8 * j + m then tkL g (p - 8 * j) else g c p
theorem nwN_0 {g : HP} {j : Nat} : nwN g j 0 = g := by
  funext c p
  unfold nwN
  rw [if_neg (fun z => by omega)]
theorem nwN_cell {g : HP} {j m c : Nat} (n : c ≠ 68) : nwN g j m c = g c := by
  funext p
  unfold nwN
  rw [if_neg (fun z => n z.1)]
theorem nwN_up {g : HP} {j m : Nat} : up (nwN g j m) 68 (8 * j + m) (tkL g m) = nwN g j (m + 1) := by
  funext c p
  by_cases z : c = 68
  · subst z
    rw [up_at]
    unfold nwN
    by_cases y : p = 8 * j + m
    · rw [if_pos y, if_pos ⟨rfl, by omega, by omega⟩, show p - 8 * j = m by omega]
    · rw [if_neg y]
      by_cases w : 8 * j ≤ p ∧ p < 8 * j + m
      · rw [if_pos ⟨rfl, w⟩, if_pos ⟨rfl, by omega, by omega⟩]
      · rw [if_neg (fun u => w u.2), if_neg (fun u => by omega)]
  · rw [up_cell z, nwN_cell z, nwN_cell z]
theorem nmOK_cg {f f' : Nat → Int} {j : Nat} {w : Int} (e : ∀ k, k < 8 → f' (8 * j + k) = f (8 * j + k)) (H : nmOK f j w) : nmOK f' j w := by
  obtain ⟨l, l1, hl, hz, hv⟩ := H
  exact ⟨l, l1, fun k hk => by rw [e k (by omega)]; exact hl k hk, fun k hk h8 => by rw [e k h8]; exact hz k hk h8, by rw [hv]; exact pkN_congr l (fun k hk => (e k (by omega)).symm)⟩
theorem NmR_add {T : Nat} {v g : HP} {i : Nat} (O : OKR T v g) (R : RT T v) (hn : nameB v = 0) (N : NmR v g) (hi : i < 4) (hc : rd (v 7) 4 (i : Int) < capI (i : Int)) {w g' : HP} (w6 : w 6 = addNameH v 5 (i : Int) (tvH v) 6) (w7 : w 7 = addNameH v 5 (i : Int) (tvH v) 7) (e68 : g' 68 = nwN g (fsI i + (rd (v 7) 4 (i : Int)).toNat) 8 68) : NmR w g' := by
  have cf := capI_fs hi
  have c0 := N.1 i hi
  obtain ⟨n, en⟩ : ∃ n : Nat, rd (v 7) 4 (i : Int) = (n : Int) := ⟨(rd (v 7) 4 (i : Int)).toNat, by omega⟩
  rw [en] at hc
  have e68 : g' 68 = nwN g (fsI i + n) 8 68 := by rw [e68, en, Int.toNat_natCast]
  have c7 : ∀ j : Nat, j < 4 → rd (w 7) 4 (j : Int) = if j = i then (n : Int) + 1 else rd (v 7) 4 (j : Int) := fun j hj => by
    have a : rdA v 7 4 (i : Int) = (n : Int) := en
    rw [w7, addName_7 ⟨by omega, by omega⟩, a, rd_in (by omega) (by omega), Int.toNat_natCast, Int.toNat_natCast]
    unfold upf
    by_cases z : j = i
    · rw [if_pos z, if_pos z]
    · rw [if_neg z, if_neg z, rd_in (by omega) (by omega), Int.toNat_natCast]
  have c6 : ∀ j : Int, rd (w 6) 32 j = if j = (i : Int) * 8 + (n : Int) then tvH v else rd (v 6) 32 j := fun j => by
    have a : rdA v 7 4 (i : Int) = (n : Int) := en
    rw [w6, addName_6, a, ← rd_A, rdA_wrA]
    by_cases z : j = (i : Int) * 8 + (n : Int)
    · rw [if_pos ⟨by omega, by omega, z⟩, if_pos z]
    · rw [if_neg (fun y => z y.2.2), if_neg z]
      rfl
  refine ⟨fun j hj => ?_, fun j q hj hq => ?_⟩
  · rw [c7 j hj]
    by_cases z : j = i
    · subst z
      rw [if_pos rfl]
      omega
    · rw [if_neg z]
      exact N.1 j hj
  · rw [c7 j hj] at hq
    rw [c6, e68]
    by_cases z : j = i ∧ q = n
    · obtain ⟨rfl, rfl⟩ := z
      rw [if_pos rfl]
      have nb := (nameB_iff O R).mp hn
      have L := OKR_let O R nb.1.1
      have row : ∀ k, k < 8 → nwN g (fsI j + q) 8 68 (8 * (fsI j + q) + k) = tkL g k := fun k hk => by
        unfold nwN
        rw [if_pos ⟨rfl, by omega, by omega⟩, show 8 * (fsI j + q) + k - 8 * (fsI j + q) = k by omega]
      refine ⟨(enH v - v 4 8).toNat, ⟨by omega, by omega⟩, fun k hk => ?_, fun k hk h8 => ?_, ?_⟩
      · rw [row k (by omega), tkL_v O R, if_pos (by omega)]
        exact L.2 _ (by omega) (by omega)
      · rw [row k h8, tkL_v O R, if_neg (by omega)]
      · rw [OKR_pk O R nb.1.1 nb.2]
        exact pkN_congr _ (fun k hk => by rw [row k (by omega), tkL_v O R, if_pos (by omega)])
    · have cj := N.1 j hj
      have qj : (q : Int) < rd (v 7) 4 (j : Int) := by
        by_cases y : j = i
        · rw [if_pos y] at hq
          rw [y, en]
          have : q ≠ n := fun u => z ⟨y, u⟩
          omega
        · rw [if_neg y] at hq
          exact hq
      have cq := capI_fs hj
      have ne := fs_ne (a := q) (b := n) hj hi (by omega) (by omega) z
      have ne8 : ¬ ((j : Int) * 8 + (q : Int) = (i : Int) * 8 + (n : Int)) := by omega
      rw [if_neg ne8]
      refine nmOK_cg (fun k hk => ?_) (N.2 j q hj qj)
      unfold nwN
      rw [if_neg (fun y => by omega)]
section MOWN
variable {M : List CT} {T : Nat} {v g : HP} {c f b : Int}
/-- nothing but what the reading is at, and the names, has changed -/
def FrN (g g' : HP) : Prop := (∀ c, c ≠ 50 → c ≠ 68 → g' c = g c) ∧ ∀ q, (q < 19 ∨ 24 < q) → g' 50 q = g 50 q
theorem FrN_T {g g' : HP} (H : FrT g g') : FrN g g' := ⟨fun c h _ => H.1 c h, H.2⟩
/-- what a new name is asked by -/
def AskO (v g : HP) (i : Nat) (f c b : Int) : Prop := v 4 10 = 0 → NmR v g ∧ f = (fsI i : Int) ∧ c = rd (v 7) 4 (i : Int) ∧ b = capI (i : Int)
theorem m_ownName {i : Nat} (H : SR T v g) (hi : i < 4) (A : AskO v g i f c b) : Ok 193 [vR 50, vI f, vI c, vI b] (LL M) g (fun o Λ' g' => o = .inl none ∧ Λ' = LL M ∧ FrN g g' ∧ SR T (nnP v (i : Int)) g' ∧ (nnP v (i : Int) 4 10 = 0 → NmR (nnP v (i : Int)) g')) := by
  refine ok_body B_X9_ownName rfl (fun X hX => ?_)
  refine hX 30 [7, 12] 0 _ _ _ _ _ _ ?_
  refine Ok_mono (fun o' Λ' h2 hp => ?_) (m_isName H)
  obtain ⟨e1, e2, x, e3, hb⟩ := hp
  subst e1
  rw [e2, e3]
  rcases hb with ⟨hn, rfl⟩ | ⟨hn, rfl⟩
  · refine And.intro (fun _ => ?_) (fun y => absurd y (by decide))
    have z : v 4 10 = 0 := by
      by_cases z : v 4 10 = 0
      · exact z
      · have := nameB_er (SR_k1 H z)
        omega
    have O := SR_ok H z
    have at0 := OKR_at O H.1.2
    obtain ⟨N, ef, ec, eb⟩ := A z
    have cb := N.1 i hi
    have fc := capI_fs hi
    have wh := num_wh O H.1.2 hn N hi
    have eA : nnA v (i : Int) = failH (failH v (if numN v (i : Int) (tvH v) = -1 then 0 else 1) 3) (if capI (i : Int) ≤ rdA v 7 4 (i : Int) then 1 else 0) 5 := by
      unfold nnA
      rw [hn, fail_0]
    have k1 : v 4 9 ≠ 1 := nameB_0 hn
    /- an error is told -/
    have bad : ∀ (w g1 : HP) (j4 : PV), SR T w g1 → FrT g g1 → w 4 10 ≠ 0 → nnA v (i : Int) = w → X 49 [vR 50, vI f, vI c, vI b, j4] [] (LL M) g1 0 0 := by
      intro w g1 j4 H1 F1 z1 ew
      have eP : nnP v (i : Int) = w := by
        unfold nnP nnB
        rw [ew, if_neg z1, pass_er z1]
      refine hX 30 [] 49 _ _ _ _ _ _ ?_
      refine Ok_rt (m_isWrong H1) ?_
      rw [if_neg z1]
      refine And.intro (fun y => absurd y (by decide)) (fun _ => ?_)
      refine ⟨rfl, rfl, FrN_T F1, ?_, fun y => ?_⟩
      · rw [eP]; exact H1
      · rw [eP] at y
        exact absurd y z1
    refine hX 30 [39] 12 _ _ _ _ _ _ ?_
    refine Ok_rt (m_isWrong H) ?_
    rw [if_pos z]
    refine And.intro (fun _ => ?_) (fun y => absurd rfl y)
    have wo := m_whichOf (M := M) (h := g) (nc := 68) (f := fsI i) (m := (rd (v 7) 4 (i : Int)).toNat) (Or.inr rfl) (tkIn_ok O H.1.2) (by omega)
    rw [show (((rd (v 7) 4 (i : Int)).toNat : Nat) : Int) = c by omega, ← ef] at wo
    refine Ok_mono (fun o' Λ' h2 hp => ?_) wo
    obtain ⟨e1, e2, r, e3, hw⟩ := hp
    have er := whI_fun hw wh
    subst e1
    rw [e2, e3]
    refine And.intro (fun c1 => ?_) (fun c1 => ?_)
    · have c1 : r = -1 := c1
      rw [← er, if_pos c1, fail_0] at eA
      refine hX 30 [49] 39 _ _ _ _ _ _ ?_
      refine And.intro (fun c2 => ?_) (fun c2 => ?_)
      · have c2 : c ≠ b := c2
        have lt : rd (v 7) 4 (i : Int) < capI (i : Int) := by omega
        have lt' : rdA v 7 4 (i : Int) < capI (i : Int) := lt
        rw [if_neg (by omega), fail_0] at eA
        have eP : nnP v (i : Int) = passH (addNameH v 5 (i : Int) (tvH v)) := by
          unfold nnP nnB
          rw [eA, if_pos z]
        obtain ⟨n, en⟩ : ∃ n : Nat, rd (v 7) 4 (i : Int) = (n : Int) := ⟨(rd (v 7) 4 (i : Int)).toNat, by omega⟩
        obtain ⟨j, ej⟩ : ∃ j : Nat, j = fsI i + n := ⟨_, rfl⟩
        have j23 : j ≤ 23 := by omega
        have fin : ∀ (j4 : PV), X 116 [vR 50, vI f, vI c, vI b, j4] [] (LL M) (nwN g j 8) 0 0 := by
          intro j4
          have iz : ((i : Int) ≠ 2 ∨ (i : Int) = 2) := by omega
          have S1 : SR T (addNameH v 5 (i : Int) (tvH v)) (nwN g j 8) := by
            refine SR_cls (SR_wr H (nwN_cell (by decide)) (fun q _ _ => by rw [nwN_cell (by decide)])) (addName_cell (by decide) (by decide) (Or.inl (by decide)) (Or.inl (by decide))) (addName_cell (by decide) (by decide) (Or.inl (by decide)) (Or.inl (by decide))) addNameH_4 (fun q h0 h1 => addName_cell (by omega) (by omega) (Or.inl (by omega)) (Or.inl (by omega)))
          have z2 : addNameH v 5 (i : Int) (tvH v) 4 10 = 0 := by rw [addNameH_4]; exact z
          have O1 := SR_ok S1 z2
          have at1 := OKR_at O1 S1.1.2
          have k2 : addNameH v 5 (i : Int) (tvH v) 4 9 ≠ 1 := by rw [addNameH_4]; exact k1
          refine hX 30 [] 116 _ _ _ _ _ _ ?_
          refine Ok_mono (fun o' Λ' h2 hp => ?_) (m_token O1.2.2.2.2 (by rw [O1.2.2.2.1.2.1]; omega) S1.1.1)
          obtain ⟨e1, e2, F, P⟩ := hp
          subst e1
          subst e2
          refine ⟨rfl, rfl, ⟨fun q h0 h1 => (F.1 q h0).trans (nwN_cell h1), fun q hq => (F.2 q (by omega)).trans (by rw [nwN_cell (by decide)])⟩, ?_, fun _ => ?_⟩
          · rw [eP]
            exact ⟨⟨P.2.2.2, RT_pass S1.1.2 (fun _ => k2)⟩, Or.inr (OKR_pass O1 S1.1.2 k2 F P)⟩
          · rw [eP]
            exact NmR_add O H.1.2 hn N hi lt (passH_cell (by decide)) (passH_cell (by decide)) (by rw [F.1 68 (by decide), ej, en, Int.toNat_natCast])
        have loop : ∀ (m k : Nat), k + m = 8 → X 60 [vR 50, vI f, vI c, vI b, vI (k : Int)] [] (LL M) (nwN g j k) 0 0 := by
          intro m
          induction m with
          | zero =>
            intro k hk
            have k8 : k = 8 := by omega
            subst k8
            refine hX 30 [116] 60 _ _ _ _ _ _ ?_
            refine And.intro (fun _ => ?_) (fun y => absurd y (by omega))
            exact fin _
          | succ m ih =>
            intro k hk
            have H2 : SR T v (nwN g j k) := SR_wr H (nwN_cell (by decide)) (fun q _ _ => by rw [nwN_cell (by decide)])
            have O2 := SR_ok H2 z
            have q19 : nwN g j k 50 19 = enH v := O2.2.2.2.1.2.1
            have q20 : nwN g j k 50 20 = v 4 8 := O2.2.2.2.1.1
            have nx : ∀ y, y = tkL g k → X 109 [vR 50, vI f, vI c, vI b, vI (k : Int)] [vI y, vI (8 * (f + c) + (k : Int)), vR 68] (LL M) (nwN g j k) 0 0 := by
              intro y hy
              subst hy
              refine hX 30 [60] 109 _ _ _ _ _ _ ?_
              refine And.intro (show 0 ≤ 8 * (f + c) + (k : Int) ∧ 8 * (f + c) + (k : Int) < 192 from ⟨by omega, by omega⟩) ?_
              refine And.intro ⟨by omega, by omega⟩ ?_
              have ep : (8 * (f + c) + (k : Int)).toNat = 8 * j + k := by omega
              have eu : up (nwN g j k) 68 (8 * (f + c) + (k : Int)).toNat (tkL g k) = nwN g j (k + 1) := by
                rw [ep]
                exact nwN_up
              rw [eu]
              exact ih (k + 1) (by omega)
            refine hX 40 [109] 60 _ _ _ _ _ _ ?_
            refine And.intro (fun y => absurd y (by omega)) (fun _ => ?_)
            refine And.intro (show inR (f + c) from ⟨by omega, by omega⟩) ?_
            refine And.intro (show inR (8 * (f + c)) from ⟨by omega, by omega⟩) ?_
            refine And.intro (show inR (8 * (f + c) + (k : Int)) from ⟨by omega, by omega⟩) ?_
            refine And.intro (show inR (nwN g j k 50 20 + (k : Int)) from ⟨by omega, by omega⟩) ?_
            refine And.intro (fun c3 => ?_) (fun c3 => ?_)
            · have c3 : nwN g j k 50 19 ≤ nwN g j k 50 20 + (k : Int) := c3
              exact nx 0 (by rw [tkL_v O H.1.2, if_neg (by omega)])
            · have c3 : nwN g j k 50 20 + (k : Int) < nwN g j k 50 19 := c3
              refine And.intro (show inR (nwN g j k 50 20 + (k : Int)) from ⟨by omega, by omega⟩) ?_
              refine Ok_rt (m_bt O2.2.2.2.2 (show 0 ≤ nwN g j k 50 20 + (k : Int) by omega)) ?_
              refine nx _ ?_
              rw [tkL_v O H.1.2, if_pos (by omega)]
              show (if nwN g j k 50 20 + (k : Int) < v 2 1 then txB v (nwN g j k 50 20 + (k : Int)) else -1) = _
              rw [if_pos (by omega), q20]
        refine hX 30 [57] 49 _ _ _ _ _ _ ?_
        refine Ok_rt (m_isWrong H) ?_
        rw [if_pos z]
        refine And.intro (fun _ => ?_) (fun y => absurd rfl y)
        refine hX 30 [60] 57 _ _ _ _ _ _ ?_
        show X 60 [_, _, _, _, vI 0] _ _ _ _ _
        have l0 := loop 8 0 (by omega)
        rw [nwN_0] at l0
        exact l0
      · have c2 : c = b := c2
        have ge : capI (i : Int) ≤ rdA v 7 4 (i : Int) := by
          have : rdA v 7 4 (i : Int) = rd (v 7) 4 (i : Int) := rfl
          omega
        rw [if_pos ge] at eA
        refine Ok_rt (m_fails H) ?_
        have H1 := SR_fails (c := 5) (x := 1) H (by decide) (by decide)
        have z1 : failH v 1 5 4 10 ≠ 0 := fun w => absurd (fail_10 (by decide) w).2 (by decide)
        exact bad _ _ _ H1 flG_fr z1 eA
    · have c1 : r ≠ -1 := c1
      rw [← er, if_neg c1] at eA
      have H1 := SR_fails (c := 3) (x := 1) H (by decide) (by decide)
      have z1 : failH v 1 3 4 10 ≠ 0 := fun w => absurd (fail_10 (by decide) w).2 (by decide)
      rw [fail_er z1] at eA
      refine Ok_rt (m_fails H) ?_
      refine hX 30 [49] 39 _ _ _ _ _ _ ?_
      refine And.intro (fun _ => bad _ _ _ H1 flG_fr z1 eA) (fun _ => ?_)
      refine Ok_rt (m_fails H1) ?_
      have H2 := SR_fails (c := 5) (x := 1) H1 (by decide) (by decide)
      rw [fail_er z1] at H2
      exact bad _ _ _ H2 (FrT_tr flG_fr flG_fr) z1 eA
  · refine And.intro (fun y => absurd rfl y) (fun _ => ?_)
    have n1 : nameB v = 1 := by
      rcases nameB_01 (v := v) with y | y
      · exact absurd y hn
      · exact y
    have H1 := SR_fails (c := 1) (x := 1) H (by decide) (by decide)
    have z1 : failH v 1 1 4 10 ≠ 0 := fun w => absurd (fail_10 (by decide) w).2 (by decide)
    have eA : nnA v (i : Int) = failH v 1 1 := by
      unfold nnA
      rw [n1, fail_er z1, fail_er z1]
    have eP : nnP v (i : Int) = failH v 1 1 := by
      unfold nnP nnB
      rw [eA, if_neg z1, pass_er z1]
    refine hX 30 [12] 7 _ _ _ _ _ _ ?_
    refine Ok_rt (m_fails H) ?_
    refine hX 30 [] 12 _ _ _ _ _ _ ?_
    refine Ok_rt (m_isWrong H1) ?_
    rw [if_neg z1]
    refine And.intro (fun y => absurd y (by decide)) (fun _ => ?_)
    refine ⟨rfl, rfl, FrN_T flG_fr, ?_, fun y => ?_⟩
    · rw [eP]; exact H1
    · rw [eP] at y
      exact absurd y z1
end MOWN
