/-! ===== the model: find ===== -/
def fsI (i : Nat) : Nat := if i = 0 then 0 else if i = 1 then 6 else if i = 2 then 14 else 18
def fnP (h : HP) (len j : Nat) : Prop := (1 ≤ len ∧ len ≤ 8) ∧ (∀ k, k < len → h 61 k ≠ 0) ∧ sameN (fun k => if k < len then h 61 k else 0) (h 56) j
theorem whI_congr {P Q : Nat → Prop} {m : Nat} {r : Int} (h : ∀ q, q < m → (P q ↔ Q q)) (H : whI P m r) : whI Q m r := by
  rcases H with ⟨a, b⟩ | ⟨q, q1, q2, q3, q4⟩
  · exact Or.inl ⟨a, fun q hq => fun z => b q hq ((h q hq).mpr z)⟩
  · exact Or.inr ⟨q, q1, q2, (h q q1).mp q3, fun q' hq' => fun z => q4 q' hq' ((h q' (by omega)).mpr z)⟩
theorem whI_fun {P : Nat → Prop} {m : Nat} {r r' : Int} (H : whI P m r) (G : whI P m r') : r = r' := by
  rcases H with ⟨a, b⟩ | ⟨q, q1, q2, q3, q4⟩ <;> rcases G with ⟨a', b'⟩ | ⟨p, p1, p2, p3, p4⟩
  · rw [a, a']
  · exact absurd p3 (b p p1)
  · exact absurd q3 (b' q q1)
  · have : q = p := by
      by_cases z : q < p
      · exact absurd q3 (p4 q z)
      · by_cases y : p < q
        · exact absurd p3 (q4 p y)
        · omega
    rw [q2, p2, this]
section MFIND2
variable {M : List CT} {h : HP} {i len m : Nat}
theorem m_find (hi : i < 4) (hn : h 50 17 = (len : Int)) (hl : len ≤ 1500) (hm : h 50 (1 + i) = (m : Int)) (hm2 : fsI i + m ≤ 24) :
    Ok 211 [vR 50, vI (i : Int)] (LL M) h (fun o Λ' h' => Λ' = LL M ∧ (∀ c, c ≠ 50 → h' c = h c) ∧ (∀ q, q ≠ 0 → q ≠ 17 → q ≠ 18 → q ≠ 19 → q ≠ 20 → h' 50 q = h 50 q) ∧ h' 50 17 = 0 ∧
      ∃ r, whI (fun q => fnP h len (fsI i + q)) m r ∧ ((r = -1 ∧ h' 50 0 = 2 ∧ o = .inl (some (vI 0))) ∨ (r ≠ -1 ∧ h' 50 0 = 0 ∧ o = .inl (some (vI r))))) := by
  refine ok_body B_X9_find rfl (fun X hX => ?_)
  have last : ∀ (hf : HP) (is r : Int), (∀ c, c ≠ 50 → hf c = h c) → (∀ q, q ≠ 0 → q ≠ 17 → q ≠ 18 → q ≠ 19 → q ≠ 20 → hf 50 q = h 50 q) → hf 50 0 = 0 → hf 50 17 = 0 → whI (fun q => fnP h len (fsI i + q)) m r → X 200 [vR 50, vI (i : Int), vI is, vI (fsI i : Int), vI (m : Int), vI r] [] (LL M) hf 0 0 := by
    intro hf is r g1 g2 g3 g4 hr
    refine hX 60 [212] 200 _ _ _ _ _ _ ?_
    refine And.intro (fun c204 => ?_) (fun c204 => ?_)
    · have c204 : r = -1 := c204
      refine hX 60 [] 212 _ _ _ _ _ _ ?_
      refine Ok_rt (mayF (by decide) g3) ?_
      refine And.intro (fun _ => ?_) (fun c9 => absurd rfl c9)
      exact ⟨rfl, fun c c0 => by rw [up_cell c0]; exact g1 c c0, fun q q0 q1 q2 q3 q4 => by rw [up_ne q0]; exact g2 q q0 q1 q2 q3 q4, by rw [up_ne (by decide)]; exact g4, r, hr, Or.inl ⟨c204, up_same, rfl⟩⟩
    · have c204 : r ≠ -1 := c204
      refine hX 60 [] 212 _ _ _ _ _ _ ?_
      refine Ok_rt (mayT (by decide) g3) ?_
      refine And.intro (fun c9 => absurd c9 (by decide)) (fun _ => ?_)
      exact ⟨rfl, g1, g2, g4, r, hr, Or.inr ⟨c204, g3, rfl⟩⟩
  have ask : ∀ (hf : HP) (is : Int) (j5 : PV), (∀ c, c ≠ 50 → hf c = h c) → (∀ q, q ≠ 0 → q ≠ 17 → q ≠ 18 → q ≠ 19 → q ≠ 20 → hf 50 q = h 50 q) → hf 50 0 = 0 → hf 50 17 = 0 → hf 50 18 = (len : Int) → hf 50 19 = (len : Int) → hf 50 20 = 0 → bI is ((1 ≤ len ∧ len ≤ 8) ∧ ∀ k, k < len → h 61 k ≠ 0) →
      X 179 [vR 50, vI (i : Int), vI is, vI (fsI i : Int), vI (m : Int), j5] [] (LL M) hf 0 0 := by
    intro hf is j5 g1 g2 g3 g4 g5 g6 g7 hb
    refine hX 60 [198] 179 _ _ _ _ _ _ ?_
    rcases hb with ⟨y, rfl⟩ | ⟨y, rfl⟩
    · refine And.intro (fun c9 => absurd c9 (by decide)) (fun _ => ?_)
      have wo := m_whichOf (M := M) (h := hf) (nc := 56) (f := fsI i) (m := m) (Or.inl rfl) ⟨by omega, by omega, by omega, by omega⟩ hm2
      refine Ok_mono (fun o' Λ' h2 hpost => ?_) wo
      obtain ⟨e1, e2, r, e3, hr⟩ := hpost
      subst e1
      rw [e2, e3]
      refine hX 60 [200] 198 _ _ _ _ _ _ ?_
      refine last hf 1 r g1 g2 g3 g4 (whI_congr (fun q hq => ?_) hr)
      have tk : ∀ k : Nat, tkL hf k = if k < len then h 61 k else 0 := fun k => by
        unfold tkL
        rw [g6, g7, g1 61 (by decide), show (0 + (k : Int)).toNat = k by omega]
        by_cases z : k < len
        · rw [if_pos z, if_pos (by omega)]
        · rw [if_neg z, if_neg (by omega)]
      unfold fnP sameN
      rw [g1 56 (by decide)]
      constructor
      · intro z
        exact ⟨y.1, y.2, fun k hk => (tk k).symm.trans (z k hk)⟩
      · intro z k hk
        rw [tk k]
        exact z.2.2 k hk
    · refine And.intro (fun _ => ?_) (fun c9 => absurd rfl c9)
      refine hX 60 [200] 198 _ _ _ _ _ _ ?_
      exact last hf 0 (-1) g1 g2 g3 g4 (Or.inl ⟨rfl, fun q _ z => y ⟨z.1, z.2.1⟩⟩)
  have pick : ∀ (hf : HP) (is k : Int) (j4 j5 : PV), (∀ c, c ≠ 50 → hf c = h c) → (∀ q, q ≠ 0 → q ≠ 17 → q ≠ 18 → q ≠ 19 → q ≠ 20 → hf 50 q = h 50 q) → hf 50 0 = 0 → hf 50 17 = 0 → hf 50 18 = (len : Int) → hf 50 19 = (len : Int) → hf 50 20 = 0 → bI is ((1 ≤ len ∧ len ≤ 8) ∧ ∀ k, k < len → h 61 k ≠ 0) →
      X 107 [vR 50, vI (i : Int), vI is, vI k, j4, j5] [] (LL M) hf 0 0 := by
    intro hf is k j4 j5 g1 g2 g3 g4 g5 g6 g7 hb
    have many : ∀ v, v = (m : Int) → X 177 [vR 50, vI (i : Int), vI is, vI (fsI i : Int), j4, j5] [vI v] (LL M) hf 0 0 := by
      intro v hv
      subst hv
      refine hX 60 [179] 177 _ _ _ _ _ _ ?_
      exact ask hf is _ g1 g2 g3 g4 g5 g6 g7 hb
    have first : ∀ v, v = (fsI i : Int) → X 137 [vR 50, vI (i : Int), vI is, vI k, j4, j5] [vI v] (LL M) hf 0 0 := by
      intro v hv
      subst hv
      refine hX 60 [138, 177] 137 _ _ _ _ _ _ ?_
      show X 138 [_, _, _, _, _, _] _ _ _ _ _
      refine hX 60 [177] 138 _ _ _ _ _ _ ?_
      refine And.intro (fun c139 => ?_) (fun c139 => ?_)
      · refine And.intro (fun c151 => ?_) (fun c151 => ?_)
        · refine And.intro (fun c163 => ?_) (fun c163 => ?_)
          · have e : i = 3 := by
              have c139 : (i : Int) ≠ 0 := c139
              have c151 : (i : Int) ≠ 1 := c151
              have c163 : (i : Int) ≠ 2 := c163
              omega
            subst e
            exact many _ ((g2 4 (by decide) (by decide) (by decide) (by decide) (by decide)).trans hm)
          · have e : i = 2 := by
              have c163 : (i : Int) = 2 := c163
              omega
            subst e
            exact many _ ((g2 3 (by decide) (by decide) (by decide) (by decide) (by decide)).trans hm)
        · have e : i = 1 := by
            have c151 : (i : Int) = 1 := c151
            omega
          subst e
          exact many _ ((g2 2 (by decide) (by decide) (by decide) (by decide) (by decide)).trans hm)
      · have e : i = 0 := by
          have c139 : (i : Int) = 0 := c139
          omega
        subst e
        exact many _ ((g2 1 (by decide) (by decide) (by decide) (by decide) (by decide)).trans hm)
    refine hX 60 [137] 107 _ _ _ _ _ _ ?_
    refine And.intro (fun c108 => ?_) (fun c108 => ?_)
    · have c108 : (i : Int) ≠ 0 := c108
      refine And.intro (fun c117 => ?_) (fun c117 => ?_)
      · have c117 : (i : Int) ≠ 1 := c117
        refine And.intro (fun c127 => ?_) (fun c127 => ?_)
        · have c127 : (i : Int) ≠ 2 := c127
          exact first _ (by unfold fsI; rw [if_neg (by omega), if_neg (by omega), if_neg (by omega)]; rfl)
        · have c127 : (i : Int) = 2 := c127
          exact first _ (by unfold fsI; rw [if_neg (by omega), if_neg (by omega), if_pos (by omega)]; rfl)
      · have c117 : (i : Int) = 1 := c117
        exact first _ (by unfold fsI; rw [if_neg (by omega), if_pos (by omega)]; rfl)
    · have c108 : (i : Int) = 0 := c108
      exact first _ (by unfold fsI; rw [if_pos (by omega)]; rfl)
  have loop : ∀ (hf : HP), (∀ c, c ≠ 50 → hf c = h c) → (∀ q, q ≠ 0 → q ≠ 17 → q ≠ 18 → q ≠ 19 → q ≠ 20 → hf 50 q = h 50 q) → hf 50 0 = 0 → hf 50 17 = 0 → hf 50 18 = (len : Int) → hf 50 19 = (len : Int) → hf 50 20 = 0 → ∀ (f k : Nat) (is : Int) (j4 j5 : PV), k + f = len → bI is ((1 ≤ len ∧ len ≤ 8) ∧ ∀ q, q < k → h 61 q ≠ 0) →
      X 74 [vR 50, vI (i : Int), vI is, vI (k : Int), j4, j5] [] (LL M) hf 0 0 := by
    intro hf g1 g2 g3 g4 g5 g6 g7 f
    induction f with
    | zero =>
      intro k is j4 j5 hk hb
      have ek : k = len := by omega
      subst ek
      refine hX 60 [107] 74 _ _ _ _ _ _ ?_
      refine And.intro (fun _ => ?_) (fun c79 => absurd c79 (by omega))
      exact pick hf is _ _ _ g1 g2 g3 g4 g5 g6 g7 hb
    | succ f ih =>
      intro k is j4 j5 hk hb
      have e61 : hf 61 (k : Int).toNat = h 61 k := by rw [g1 61 (by decide), Int.toNat_natCast]
      have nxt : ∀ v, bI v ((1 ≤ len ∧ len ≤ 8) ∧ ∀ q, q < k + 1 → h 61 q ≠ 0) → X 100 [vR 50, vI (i : Int), vI is, vI (k : Int), j4, j5] [vI v] (LL M) hf 0 0 := by
        intro v hv
        refine hX 60 [74, 101] 100 _ _ _ _ _ _ ?_
        show X 101 [_, _, _, _, _, _] _ _ _ _ _
        refine hX 60 [74] 101 _ _ _ _ _ _ ?_
        refine And.intro ⟨by omega, by omega⟩ ?_
        exact ih (k + 1) v j4 j5 (by omega) hv
      refine hX 60 [100, 107] 74 _ _ _ _ _ _ ?_
      refine And.intro (fun c79 => absurd c79 (by omega)) (fun c79 => ?_)
      rcases hb with ⟨y, rfl⟩ | ⟨y, rfl⟩
      · refine And.intro (fun c9 => absurd c9 (by decide)) (fun _ => ?_)
        refine And.intro ⟨by omega, by omega⟩ ?_
        rw [e61]
        refine And.intro (fun c92 => ?_) (fun c92 => ?_)
        · have c92 : h 61 k = 0 := c92
          exact nxt 0 (Or.inr ⟨fun z => z.2 k (by omega) c92, rfl⟩)
        · have c92 : h 61 k ≠ 0 := c92
          exact nxt 1 (Or.inl ⟨⟨y.1, fun q hq => by
            by_cases z : q = k
            · rw [z]; exact c92
            · exact y.2 q (by omega)⟩, rfl⟩)
      · refine And.intro (fun _ => ?_) (fun c9 => absurd rfl c9)
        exact pick hf 0 _ _ _ g1 g2 g3 g4 g5 g6 g7 (Or.inr ⟨fun z => y ⟨z.1, fun q hq => z.2 q (by omega)⟩, rfl⟩)
  have main : ∀ (hf : HP), (∀ c, c ≠ 50 → hf c = h c) → (∀ q, q ≠ 0 → q ≠ 17 → q ≠ 18 → q ≠ 19 → q ≠ 20 → hf 50 q = h 50 q) → hf 50 0 = 0 → hf 50 17 = 0 → hf 50 18 = (len : Int) → hf 50 19 = (len : Int) → hf 50 20 = 0 → X 50 [vR 50, vI (i : Int), vU, vU, vU, vU] [] (LL M) hf 0 0 := by
    intro hf g1 g2 g3 g4 g5 g6 g7
    have st : ∀ v, bI v (1 ≤ len ∧ len ≤ 8) → X 71 [vR 50, vI (i : Int), vU, vU, vU, vU] [vI v] (LL M) hf 0 0 := by
      intro v hv
      refine hX 60 [72, 74] 71 _ _ _ _ _ _ ?_
      show X 72 [_, _, _, _, _, _] _ _ _ _ _
      refine hX 60 [74] 72 _ _ _ _ _ _ ?_
      refine loop hf g1 g2 g3 g4 g5 g6 g7 len 0 v _ _ (by omega) ?_
      rcases hv with ⟨y, z⟩ | ⟨y, z⟩
      · exact Or.inl ⟨⟨y, fun q hq => absurd hq (Nat.not_lt_zero _)⟩, z⟩
      · exact Or.inr ⟨fun x => y x.1, z⟩
    refine hX 60 [71] 50 _ _ _ _ _ _ ?_
    refine And.intro (fun c54 => ?_) (fun c54 => ?_)
    · have c54 : hf 50 18 ≤ 0 := c54
      exact st 0 (Or.inr ⟨fun z => by omega, rfl⟩)
    · have c54 : 0 < hf 50 18 := c54
      refine And.intro (fun c63 => ?_) (fun c63 => ?_)
      · have c63 : 8 < hf 50 18 := c63
        exact st 0 (Or.inr ⟨fun z => by omega, rfl⟩)
      · have c63 : hf 50 18 ≤ 8 := c63
        exact st 1 (Or.inl ⟨⟨by omega, by omega⟩, rfl⟩)
  refine hX 60 [24] 0 _ _ _ _ _ _ ?_
  refine Ok_rt (isIn_t (by omega)) ?_
  refine Ok_rt (mayT (by decide) up_same) ?_
  refine And.intro (fun _ => ?_) (fun c9 => absurd c9 (by decide))
  refine hX 60 [50] 24 _ _ _ _ _ _ ?_
  have e17 : up h 50 0 0 50 17 = (len : Int) := by rw [up_ne (by decide)]; exact hn
  refine main _ (fun c c0 => by rw [up_cell c0, up_cell c0, up_cell c0, up_cell c0, up_cell c0]) (fun q q0 q1 q2 q3 q4 => by rw [up_ne q3, up_ne q4, up_ne q1, up_ne q2, up_ne q0]) ?_ ?_ ?_ ?_ ?_
  · rw [up_ne (by decide), up_ne (by decide), up_ne (by decide), up_ne (by decide), up_same]
  · rw [up_ne (by decide), up_ne (by decide), up_same]
  · rw [up_ne (by decide), up_ne (by decide), up_ne (by decide), up_same]; exact e17
  · rw [up_same, up_ne (by decide), up_ne (by decide), up_same]; exact e17
  · rw [up_ne (by decide), up_same]
theorem m_find_x {i : Int} (hi : ¬ (0 ≤ i ∧ i ≤ 3)) : Ok 211 [vR 50, vI i] (LL M) h (thP M h 0 1) := by
  have fin : ∀ e h', h' = up (up h 50 0 0) 50 0 e → FrM h h' ∧ h' 50 0 = e := fun e h' q => by rw [q, up_up]; exact ⟨FrM_0, up_same⟩
  refine ok_body B_X9_find rfl (fun X hX => ?_)
  refine hX 60 [24] 0 _ _ _ _ _ _ ?_
  refine Ok_rt (isIn_f hi) ?_
  refine Ok_rt (mayF (by decide) up_same) ?_
  refine And.intro (fun c9 => absurd rfl c9) (fun _ => ?_)
  exact ⟨rfl, rfl, fin _ _ rfl⟩
end MFIND2
