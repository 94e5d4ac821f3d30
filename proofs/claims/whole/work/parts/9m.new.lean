/-! ===== the class's constructor ===== -/
def hO : HP := fun _ _ => 0
def hR4 : HP := up (up (up (up (up hO 4 7 0) 4 8 0) 4 9 (-1)) 4 10 0) 4 11 (-1)
def hA : HP := up (up (up (up (up hR4 1 10 0) 1 11 0) 1 12 0) 1 13 0) 1 14 (-1)
def hB : HP := addTx 0 (lenS 0) 0 hA
def hC : HP := cpA (copyPH (up (rtE hB) 2 1 0)) 14 132 0 28 132 0 132
theorem upA_O {a : Nat} : upA hO a (fun _ => 0) = hO := by
  funext p
  unfold upA
  split
  · rfl
  · rfl
theorem upA_up {h : HP} {a b c : Nat} {v : Int} {f : Nat → Int} (n : a ≠ c) : upA (up h a b v) c f = up (upA h c f) a b v := by
  funext p q
  by_cases e : p = c
  · subst e
    simp [upA, up, Ne.symm n]
  · simp [upA, up, e]
theorem upA_id {h : HP} {a : Nat} (e : h a = fun _ => 0) : upA h a (fun _ => 0) = h := by
  funext p
  unfold upA
  split
  · next z => rw [z, e]
  · rfl
theorem up_id {h : HP} {a j : Nat} {v : Int} (e : h a j = v) : up h a j v = h := by
  funext p q
  unfold up
  split
  · next z =>
    split
    · next z2 => rw [z, z2, e]
    · rfl
  · rfl
theorem hA_z {c : Nat} (n : c ≠ 1) (n2 : c ≠ 2) (n4 : c ≠ 4) : hA c = fun _ => 0 := by
  unfold hA hR4
  rw [up_cell n, up_cell n, up_cell n, up_cell n, up_cell n, up_cell n4, up_cell n4, up_cell n4, up_cell n4, up_cell n4]
  rfl
theorem addB_cell {h : HP} {x : Int} {c : Nat} (n2 : c ≠ 2) (n3 : c ≠ 3) : addBH h x c = h c := by unfold addBH; split; rw [up_cell n2, up_cell n3]; rfl
theorem addTx_c {sid c : Nat} (n2 : c ≠ 2) (n3 : c ≠ 3) : ∀ (m : Nat) (i : Int) (h : HP), addTx sid m i h c = h c
  | 0, _, _ => rfl
  | m + 1, i, h => by
    unfold addTx
    rw [addTx_c n2 n3 m, addB_cell n2 n3]
theorem hB_z {c : Nat} (n : c ≠ 1) (n2 : c ≠ 2) (n3 : c ≠ 3) (n4 : c ≠ 4) : hB c = fun _ => 0 := by
  unfold hB
  rw [addTx_c n2 n3]
  exact hA_z n n2 n4
theorem rd_0 {len : Nat} {q : Int} : rd (fun _ => (0 : Int)) len q = 0 := by unfold rd; split <;> rfl
theorem rtB_h2 : 0 ≤ hB 2 1 ∧ hB 2 1 ≤ 1500 := by decide +kernel
theorem rtB_ok : rtE hB 4 10 = 0 := by decide +kernel
theorem TKI_B : TKI hB := by
  unfold TKI tvOK
  rw [hB_z (c := 16) (by decide) (by decide) (by decide) (by decide), hB_z (c := 17) (by decide) (by decide) (by decide) (by decide), hB_z (c := 18) (by decide) (by decide) (by decide) (by decide)]
  simp only [rd_0]
  exact ⟨fun _ => by decide, fun _ => by decide, fun _ => by decide⟩
theorem rwB_B : rwB 80 hB := fun q => by
  have e : rdA hB 8 4 q = 0 := by unfold rdA; rw [hB_z (c := 8) (by decide) (by decide) (by decide) (by decide)]; split <;> rfl
  rw [e]
  exact ⟨by decide, by decide⟩
theorem ptB_B : ptB 50 hB := fun q => by
  have e : rdA hB 11 6 q = 0 := by unfold rdA; rw [hB_z (c := 11) (by decide) (by decide) (by decide) (by decide)]; split <;> rfl
  rw [e]
  exact ⟨by decide, by decide⟩
theorem N_X7 {c1 : CT} {h : HP} (e : ∀ c, 2 ≤ c → c < 80 → h c = fun _ => 0) : Ok 113 [vR 2] [c1, .inl (6, List.replicate 2 0)] h (rt none [c1, .inl (6, [3, 0]), .inr (2, 1500)] h) := by
  refine ok_body B_X7_init rfl (fun X hX => ?_)
  refine hX 20 [13] 0 _ _ _ _ _ _ ?_
  show X 13 _ [] [c1, .inl (6, [3, 0]), .inr (2, 1500)] (upA h 3 (fun _ => 0)) _ _
  rw [upA_id (e 3 (by decide) (by decide))]
  refine hX 20 [18] 13 _ _ _ _ _ _ ?_
  show X 18 _ [] [c1, .inl (6, [3, 0]), .inr (2, 1500)] (up h 2 1 0) _ _
  rw [up_id (congrFun (e 2 (by decide) (by decide)) 1)]
  refine hX 20 [] 18 _ _ _ _ _ _ ?_
  exact ⟨rfl, rfl, rfl⟩
theorem N_X2a {c1 c2 c3 c4 : CT} {h : HP} (e : ∀ c, 5 ≤ c → c < 80 → h c = fun _ => 0) : Ok 16 [vR 5] [c1, c2, c3, c4, .inl (1, List.replicate 7 0)] h (rt none [c1, c2, c3, c4, .inl (1, [6, 7, 8, 9, 10, 11, 12]), .inr (1, 32), .inr (0, 4), .inr (0, 4), .inr (0, 32), .inr (0, 32), .inr (0, 6), .inr (0, 540)] h) := by
  refine ok_body B_X2_init rfl (fun X hX => ?_)
  refine hX 20 [12] 0 _ _ _ _ _ _ ?_
  show X 12 _ [] [c1, c2, c3, c4, .inl (1, [6, 0, 0, 0, 0, 0, 0]), .inr (1, 32)] (upA h 6 (fun _ => 0)) _ _
  rw [upA_id (e 6 (by decide) (by decide))]
  refine hX 20 [19] 12 _ _ _ _ _ _ ?_
  show X 19 _ [] [c1, c2, c3, c4, .inl (1, [6, 7, 0, 0, 0, 0, 0]), .inr (1, 32), .inr (0, 4)] (upA h 7 (fun _ => 0)) _ _
  rw [upA_id (e 7 (by decide) (by decide))]
  refine hX 20 [26] 19 _ _ _ _ _ _ ?_
  show X 26 _ [] [c1, c2, c3, c4, .inl (1, [6, 7, 8, 0, 0, 0, 0]), .inr (1, 32), .inr (0, 4), .inr (0, 4)] (upA h 8 (fun _ => 0)) _ _
  rw [upA_id (e 8 (by decide) (by decide))]
  refine hX 20 [34] 26 _ _ _ _ _ _ ?_
  show X 34 _ [] [c1, c2, c3, c4, .inl (1, [6, 7, 8, 9, 0, 0, 0]), .inr (1, 32), .inr (0, 4), .inr (0, 4), .inr (0, 32)] (upA h 9 (fun _ => 0)) _ _
  rw [upA_id (e 9 (by decide) (by decide))]
  refine hX 20 [42] 34 _ _ _ _ _ _ ?_
  show X 42 _ [] [c1, c2, c3, c4, .inl (1, [6, 7, 8, 9, 10, 0, 0]), .inr (1, 32), .inr (0, 4), .inr (0, 4), .inr (0, 32), .inr (0, 32)] (upA h 10 (fun _ => 0)) _ _
  rw [upA_id (e 10 (by decide) (by decide))]
  refine hX 20 [50] 42 _ _ _ _ _ _ ?_
  show X 50 _ [] [c1, c2, c3, c4, .inl (1, [6, 7, 8, 9, 10, 11, 0]), .inr (1, 32), .inr (0, 4), .inr (0, 4), .inr (0, 32), .inr (0, 32), .inr (0, 6)] (upA h 11 (fun _ => 0)) _ _
  rw [upA_id (e 11 (by decide) (by decide))]
  refine hX 20 [59] 50 _ _ _ _ _ _ ?_
  show X 59 _ [] [c1, c2, c3, c4, .inl (1, [6, 7, 8, 9, 10, 11, 12]), .inr (1, 32), .inr (0, 4), .inr (0, 4), .inr (0, 32), .inr (0, 32), .inr (0, 6), .inr (0, 540)] (upA h 12 (fun _ => 0)) _ _
  rw [upA_id (e 12 (by decide) (by decide))]
  refine hX 20 [] 59 _ _ _ _ _ _ ?_
  exact ⟨rfl, rfl, rfl⟩
theorem N_X6a {c1 c2 c3 c4 c5 c6 c7 c8 c9 c10 c11 c12 : CT} {h : HP} (e : ∀ c, 13 ≤ c → c < 80 → h c = fun _ => 0) : Ok 99 [vR 13] [c1, c2, c3, c4, c5, c6, c7, c8, c9, c10, c11, c12, .inl (5, List.replicate 1 0)] h (rt none [c1, c2, c3, c4, c5, c6, c7, c8, c9, c10, c11, c12, .inl (5, [14]), .inr (0, 132)] h) := by
  refine ok_body B_X6_init rfl (fun X hX => ?_)
  refine hX 20 [13] 0 _ _ _ _ _ _ ?_
  show X 13 _ [] [c1, c2, c3, c4, c5, c6, c7, c8, c9, c10, c11, c12, .inl (5, [14]), .inr (0, 132)] (upA h 14 (fun _ => 0)) _ _
  rw [upA_id (e 14 (by decide) (by decide))]
  refine hX 20 [] 13 _ _ _ _ _ _ ?_
  exact ⟨rfl, rfl, rfl⟩
theorem N_X2b {c1 c2 c3 c4 c5 c6 c7 c8 c9 c10 c11 c12 c13 c14 c15 c16 c17 c18 : CT} {h : HP} (e : ∀ c, 19 ≤ c → c < 80 → h c = fun _ => 0) : Ok 16 [vR 19] [c1, c2, c3, c4, c5, c6, c7, c8, c9, c10, c11, c12, c13, c14, c15, c16, c17, c18, .inl (1, List.replicate 7 0)] h (rt none [c1, c2, c3, c4, c5, c6, c7, c8, c9, c10, c11, c12, c13, c14, c15, c16, c17, c18, .inl (1, [20, 21, 22, 23, 24, 25, 26]), .inr (1, 32), .inr (0, 4), .inr (0, 4), .inr (0, 32), .inr (0, 32), .inr (0, 6), .inr (0, 540)] h) := by
  refine ok_body B_X2_init rfl (fun X hX => ?_)
  refine hX 20 [12] 0 _ _ _ _ _ _ ?_
  show X 12 _ [] [c1, c2, c3, c4, c5, c6, c7, c8, c9, c10, c11, c12, c13, c14, c15, c16, c17, c18, .inl (1, [20, 0, 0, 0, 0, 0, 0]), .inr (1, 32)] (upA h 20 (fun _ => 0)) _ _
  rw [upA_id (e 20 (by decide) (by decide))]
  refine hX 20 [19] 12 _ _ _ _ _ _ ?_
  show X 19 _ [] [c1, c2, c3, c4, c5, c6, c7, c8, c9, c10, c11, c12, c13, c14, c15, c16, c17, c18, .inl (1, [20, 21, 0, 0, 0, 0, 0]), .inr (1, 32), .inr (0, 4)] (upA h 21 (fun _ => 0)) _ _
  rw [upA_id (e 21 (by decide) (by decide))]
  refine hX 20 [26] 19 _ _ _ _ _ _ ?_
  show X 26 _ [] [c1, c2, c3, c4, c5, c6, c7, c8, c9, c10, c11, c12, c13, c14, c15, c16, c17, c18, .inl (1, [20, 21, 22, 0, 0, 0, 0]), .inr (1, 32), .inr (0, 4), .inr (0, 4)] (upA h 22 (fun _ => 0)) _ _
  rw [upA_id (e 22 (by decide) (by decide))]
  refine hX 20 [34] 26 _ _ _ _ _ _ ?_
  show X 34 _ [] [c1, c2, c3, c4, c5, c6, c7, c8, c9, c10, c11, c12, c13, c14, c15, c16, c17, c18, .inl (1, [20, 21, 22, 23, 0, 0, 0]), .inr (1, 32), .inr (0, 4), .inr (0, 4), .inr (0, 32)] (upA h 23 (fun _ => 0)) _ _
  rw [upA_id (e 23 (by decide) (by decide))]
  refine hX 20 [42] 34 _ _ _ _ _ _ ?_
  show X 42 _ [] [c1, c2, c3, c4, c5, c6, c7, c8, c9, c10, c11, c12, c13, c14, c15, c16, c17, c18, .inl (1, [20, 21, 22, 23, 24, 0, 0]), .inr (1, 32), .inr (0, 4), .inr (0, 4), .inr (0, 32), .inr (0, 32)] (upA h 24 (fun _ => 0)) _ _
  rw [upA_id (e 24 (by decide) (by decide))]
  refine hX 20 [50] 42 _ _ _ _ _ _ ?_
  show X 50 _ [] [c1, c2, c3, c4, c5, c6, c7, c8, c9, c10, c11, c12, c13, c14, c15, c16, c17, c18, .inl (1, [20, 21, 22, 23, 24, 25, 0]), .inr (1, 32), .inr (0, 4), .inr (0, 4), .inr (0, 32), .inr (0, 32), .inr (0, 6)] (upA h 25 (fun _ => 0)) _ _
  rw [upA_id (e 25 (by decide) (by decide))]
  refine hX 20 [59] 50 _ _ _ _ _ _ ?_
  show X 59 _ [] [c1, c2, c3, c4, c5, c6, c7, c8, c9, c10, c11, c12, c13, c14, c15, c16, c17, c18, .inl (1, [20, 21, 22, 23, 24, 25, 26]), .inr (1, 32), .inr (0, 4), .inr (0, 4), .inr (0, 32), .inr (0, 32), .inr (0, 6), .inr (0, 540)] (upA h 26 (fun _ => 0)) _ _
  rw [upA_id (e 26 (by decide) (by decide))]
  refine hX 20 [] 59 _ _ _ _ _ _ ?_
  exact ⟨rfl, rfl, rfl⟩
theorem N_X6b {c1 c2 c3 c4 c5 c6 c7 c8 c9 c10 c11 c12 c13 c14 c15 c16 c17 c18 c19 c20 c21 c22 c23 c24 c25 c26 : CT} {h : HP} (e : ∀ c, 27 ≤ c → c < 80 → h c = fun _ => 0) : Ok 99 [vR 27] [c1, c2, c3, c4, c5, c6, c7, c8, c9, c10, c11, c12, c13, c14, c15, c16, c17, c18, c19, c20, c21, c22, c23, c24, c25, c26, .inl (5, List.replicate 1 0)] h (rt none [c1, c2, c3, c4, c5, c6, c7, c8, c9, c10, c11, c12, c13, c14, c15, c16, c17, c18, c19, c20, c21, c22, c23, c24, c25, c26, .inl (5, [28]), .inr (0, 132)] h) := by
  refine ok_body B_X6_init rfl (fun X hX => ?_)
  refine hX 20 [13] 0 _ _ _ _ _ _ ?_
  show X 13 _ [] [c1, c2, c3, c4, c5, c6, c7, c8, c9, c10, c11, c12, c13, c14, c15, c16, c17, c18, c19, c20, c21, c22, c23, c24, c25, c26, .inl (5, [28]), .inr (0, 132)] (upA h 28 (fun _ => 0)) _ _
  rw [upA_id (e 28 (by decide) (by decide))]
  refine hX 20 [] 13 _ _ _ _ _ _ ?_
  exact ⟨rfl, rfl, rfl⟩
theorem N_X6c {c1 c2 c3 c4 c5 c6 c7 c8 c9 c10 c11 c12 c13 c14 c15 c16 c17 c18 c19 c20 c21 c22 c23 c24 c25 c26 c27 c28 : CT} {h : HP} (e : ∀ c, 29 ≤ c → c < 80 → h c = fun _ => 0) : Ok 99 [vR 29] [c1, c2, c3, c4, c5, c6, c7, c8, c9, c10, c11, c12, c13, c14, c15, c16, c17, c18, c19, c20, c21, c22, c23, c24, c25, c26, c27, c28, .inl (5, List.replicate 1 0)] h (rt none [c1, c2, c3, c4, c5, c6, c7, c8, c9, c10, c11, c12, c13, c14, c15, c16, c17, c18, c19, c20, c21, c22, c23, c24, c25, c26, c27, c28, .inl (5, [30]), .inr (0, 132)] h) := by
  refine ok_body B_X6_init rfl (fun X hX => ?_)
  refine hX 20 [13] 0 _ _ _ _ _ _ ?_
  show X 13 _ [] [c1, c2, c3, c4, c5, c6, c7, c8, c9, c10, c11, c12, c13, c14, c15, c16, c17, c18, c19, c20, c21, c22, c23, c24, c25, c26, c27, c28, .inl (5, [30]), .inr (0, 132)] (upA h 30 (fun _ => 0)) _ _
  rw [upA_id (e 30 (by decide) (by decide))]
  refine hX 20 [] 13 _ _ _ _ _ _ ?_
  exact ⟨rfl, rfl, rfl⟩
theorem N_X3a {c1 c2 c3 c4 c5 c6 c7 c8 c9 c10 c11 c12 c13 c14 c15 c16 c17 c18 c19 c20 c21 c22 c23 c24 c25 c26 c27 c28 c29 c30 : CT} {h : HP} (e : ∀ c, 31 ≤ c → c < 80 → h c = fun _ => 0) : Ok 35 [vR 31, vR 19] [c1, c2, c3, c4, c5, c6, c7, c8, c9, c10, c11, c12, c13, c14, c15, c16, c17, c18, c19, c20, c21, c22, c23, c24, c25, c26, c27, c28, c29, c30, .inl (2, List.replicate 9 0)] h (rt none [c1, c2, c3, c4, c5, c6, c7, c8, c9, c10, c11, c12, c13, c14, c15, c16, c17, c18, c19, c20, c21, c22, c23, c24, c25, c26, c27, c28, c29, c30, .inl (2, [19, 32, 33, 34, 35, 0, 0, 0, 0]), .inr (0, 10), .inr (0, 10), .inr (0, 10), .inr (0, 10)] h) := by
  refine ok_body B_X3_init rfl (fun X hX => ?_)
  refine hX 20 [9] 0 _ _ _ _ _ _ ?_
  show X 9 _ [] [c1, c2, c3, c4, c5, c6, c7, c8, c9, c10, c11, c12, c13, c14, c15, c16, c17, c18, c19, c20, c21, c22, c23, c24, c25, c26, c27, c28, c29, c30, .inl (2, [19, 0, 0, 0, 0, 0, 0, 0, 0])] h _ _
  refine hX 20 [17] 9 _ _ _ _ _ _ ?_
  show X 17 _ [] [c1, c2, c3, c4, c5, c6, c7, c8, c9, c10, c11, c12, c13, c14, c15, c16, c17, c18, c19, c20, c21, c22, c23, c24, c25, c26, c27, c28, c29, c30, .inl (2, [19, 32, 0, 0, 0, 0, 0, 0, 0]), .inr (0, 10)] (upA h 32 (fun _ => 0)) _ _
  rw [upA_id (e 32 (by decide) (by decide))]
  refine hX 20 [25] 17 _ _ _ _ _ _ ?_
  show X 25 _ [] [c1, c2, c3, c4, c5, c6, c7, c8, c9, c10, c11, c12, c13, c14, c15, c16, c17, c18, c19, c20, c21, c22, c23, c24, c25, c26, c27, c28, c29, c30, .inl (2, [19, 32, 33, 0, 0, 0, 0, 0, 0]), .inr (0, 10), .inr (0, 10)] (upA h 33 (fun _ => 0)) _ _
  rw [upA_id (e 33 (by decide) (by decide))]
  refine hX 20 [33] 25 _ _ _ _ _ _ ?_
  show X 33 _ [] [c1, c2, c3, c4, c5, c6, c7, c8, c9, c10, c11, c12, c13, c14, c15, c16, c17, c18, c19, c20, c21, c22, c23, c24, c25, c26, c27, c28, c29, c30, .inl (2, [19, 32, 33, 34, 0, 0, 0, 0, 0]), .inr (0, 10), .inr (0, 10), .inr (0, 10)] (upA h 34 (fun _ => 0)) _ _
  rw [upA_id (e 34 (by decide) (by decide))]
  refine hX 20 [41] 33 _ _ _ _ _ _ ?_
  show X 41 _ [] [c1, c2, c3, c4, c5, c6, c7, c8, c9, c10, c11, c12, c13, c14, c15, c16, c17, c18, c19, c20, c21, c22, c23, c24, c25, c26, c27, c28, c29, c30, .inl (2, [19, 32, 33, 34, 35, 0, 0, 0, 0]), .inr (0, 10), .inr (0, 10), .inr (0, 10), .inr (0, 10)] (upA h 35 (fun _ => 0)) _ _
  rw [upA_id (e 35 (by decide) (by decide))]
  refine hX 20 [46] 41 _ _ _ _ _ _ ?_
  show X 46 _ [] [c1, c2, c3, c4, c5, c6, c7, c8, c9, c10, c11, c12, c13, c14, c15, c16, c17, c18, c19, c20, c21, c22, c23, c24, c25, c26, c27, c28, c29, c30, .inl (2, [19, 32, 33, 34, 35, 0, 0, 0, 0]), .inr (0, 10), .inr (0, 10), .inr (0, 10), .inr (0, 10)] (up h 31 5 0) _ _
  rw [up_id (congrFun (e 31 (by decide) (by decide)) 5)]
  refine hX 20 [51] 46 _ _ _ _ _ _ ?_
  show X 51 _ [] [c1, c2, c3, c4, c5, c6, c7, c8, c9, c10, c11, c12, c13, c14, c15, c16, c17, c18, c19, c20, c21, c22, c23, c24, c25, c26, c27, c28, c29, c30, .inl (2, [19, 32, 33, 34, 35, 0, 0, 0, 0]), .inr (0, 10), .inr (0, 10), .inr (0, 10), .inr (0, 10)] (up h 31 6 0) _ _
  rw [up_id (congrFun (e 31 (by decide) (by decide)) 6)]
  refine hX 20 [56] 51 _ _ _ _ _ _ ?_
  show X 56 _ [] [c1, c2, c3, c4, c5, c6, c7, c8, c9, c10, c11, c12, c13, c14, c15, c16, c17, c18, c19, c20, c21, c22, c23, c24, c25, c26, c27, c28, c29, c30, .inl (2, [19, 32, 33, 34, 35, 0, 0, 0, 0]), .inr (0, 10), .inr (0, 10), .inr (0, 10), .inr (0, 10)] (up h 31 7 0) _ _
  rw [up_id (congrFun (e 31 (by decide) (by decide)) 7)]
  refine hX 20 [61] 56 _ _ _ _ _ _ ?_
  show X 61 _ [] [c1, c2, c3, c4, c5, c6, c7, c8, c9, c10, c11, c12, c13, c14, c15, c16, c17, c18, c19, c20, c21, c22, c23, c24, c25, c26, c27, c28, c29, c30, .inl (2, [19, 32, 33, 34, 35, 0, 0, 0, 0]), .inr (0, 10), .inr (0, 10), .inr (0, 10), .inr (0, 10)] (up h 31 8 0) _ _
  rw [up_id (congrFun (e 31 (by decide) (by decide)) 8)]
  refine hX 20 [] 61 _ _ _ _ _ _ ?_
  exact ⟨rfl, rfl, rfl⟩
theorem N_X3b {c1 c2 c3 c4 c5 c6 c7 c8 c9 c10 c11 c12 c13 c14 c15 c16 c17 c18 c19 c20 c21 c22 c23 c24 c25 c26 c27 c28 c29 c30 c31 c32 c33 c34 c35 : CT} {h : HP} (e : ∀ c, 36 ≤ c → c < 80 → h c = fun _ => 0) : Ok 35 [vR 36, vR 19] [c1, c2, c3, c4, c5, c6, c7, c8, c9, c10, c11, c12, c13, c14, c15, c16, c17, c18, c19, c20, c21, c22, c23, c24, c25, c26, c27, c28, c29, c30, c31, c32, c33, c34, c35, .inl (2, List.replicate 9 0)] h (rt none [c1, c2, c3, c4, c5, c6, c7, c8, c9, c10, c11, c12, c13, c14, c15, c16, c17, c18, c19, c20, c21, c22, c23, c24, c25, c26, c27, c28, c29, c30, c31, c32, c33, c34, c35, .inl (2, [19, 37, 38, 39, 40, 0, 0, 0, 0]), .inr (0, 10), .inr (0, 10), .inr (0, 10), .inr (0, 10)] h) := by
  refine ok_body B_X3_init rfl (fun X hX => ?_)
  refine hX 20 [9] 0 _ _ _ _ _ _ ?_
  show X 9 _ [] [c1, c2, c3, c4, c5, c6, c7, c8, c9, c10, c11, c12, c13, c14, c15, c16, c17, c18, c19, c20, c21, c22, c23, c24, c25, c26, c27, c28, c29, c30, c31, c32, c33, c34, c35, .inl (2, [19, 0, 0, 0, 0, 0, 0, 0, 0])] h _ _
  refine hX 20 [17] 9 _ _ _ _ _ _ ?_
  show X 17 _ [] [c1, c2, c3, c4, c5, c6, c7, c8, c9, c10, c11, c12, c13, c14, c15, c16, c17, c18, c19, c20, c21, c22, c23, c24, c25, c26, c27, c28, c29, c30, c31, c32, c33, c34, c35, .inl (2, [19, 37, 0, 0, 0, 0, 0, 0, 0]), .inr (0, 10)] (upA h 37 (fun _ => 0)) _ _
  rw [upA_id (e 37 (by decide) (by decide))]
  refine hX 20 [25] 17 _ _ _ _ _ _ ?_
  show X 25 _ [] [c1, c2, c3, c4, c5, c6, c7, c8, c9, c10, c11, c12, c13, c14, c15, c16, c17, c18, c19, c20, c21, c22, c23, c24, c25, c26, c27, c28, c29, c30, c31, c32, c33, c34, c35, .inl (2, [19, 37, 38, 0, 0, 0, 0, 0, 0]), .inr (0, 10), .inr (0, 10)] (upA h 38 (fun _ => 0)) _ _
  rw [upA_id (e 38 (by decide) (by decide))]
  refine hX 20 [33] 25 _ _ _ _ _ _ ?_
  show X 33 _ [] [c1, c2, c3, c4, c5, c6, c7, c8, c9, c10, c11, c12, c13, c14, c15, c16, c17, c18, c19, c20, c21, c22, c23, c24, c25, c26, c27, c28, c29, c30, c31, c32, c33, c34, c35, .inl (2, [19, 37, 38, 39, 0, 0, 0, 0, 0]), .inr (0, 10), .inr (0, 10), .inr (0, 10)] (upA h 39 (fun _ => 0)) _ _
  rw [upA_id (e 39 (by decide) (by decide))]
  refine hX 20 [41] 33 _ _ _ _ _ _ ?_
  show X 41 _ [] [c1, c2, c3, c4, c5, c6, c7, c8, c9, c10, c11, c12, c13, c14, c15, c16, c17, c18, c19, c20, c21, c22, c23, c24, c25, c26, c27, c28, c29, c30, c31, c32, c33, c34, c35, .inl (2, [19, 37, 38, 39, 40, 0, 0, 0, 0]), .inr (0, 10), .inr (0, 10), .inr (0, 10), .inr (0, 10)] (upA h 40 (fun _ => 0)) _ _
  rw [upA_id (e 40 (by decide) (by decide))]
  refine hX 20 [46] 41 _ _ _ _ _ _ ?_
  show X 46 _ [] [c1, c2, c3, c4, c5, c6, c7, c8, c9, c10, c11, c12, c13, c14, c15, c16, c17, c18, c19, c20, c21, c22, c23, c24, c25, c26, c27, c28, c29, c30, c31, c32, c33, c34, c35, .inl (2, [19, 37, 38, 39, 40, 0, 0, 0, 0]), .inr (0, 10), .inr (0, 10), .inr (0, 10), .inr (0, 10)] (up h 36 5 0) _ _
  rw [up_id (congrFun (e 36 (by decide) (by decide)) 5)]
  refine hX 20 [51] 46 _ _ _ _ _ _ ?_
  show X 51 _ [] [c1, c2, c3, c4, c5, c6, c7, c8, c9, c10, c11, c12, c13, c14, c15, c16, c17, c18, c19, c20, c21, c22, c23, c24, c25, c26, c27, c28, c29, c30, c31, c32, c33, c34, c35, .inl (2, [19, 37, 38, 39, 40, 0, 0, 0, 0]), .inr (0, 10), .inr (0, 10), .inr (0, 10), .inr (0, 10)] (up h 36 6 0) _ _
  rw [up_id (congrFun (e 36 (by decide) (by decide)) 6)]
  refine hX 20 [56] 51 _ _ _ _ _ _ ?_
  show X 56 _ [] [c1, c2, c3, c4, c5, c6, c7, c8, c9, c10, c11, c12, c13, c14, c15, c16, c17, c18, c19, c20, c21, c22, c23, c24, c25, c26, c27, c28, c29, c30, c31, c32, c33, c34, c35, .inl (2, [19, 37, 38, 39, 40, 0, 0, 0, 0]), .inr (0, 10), .inr (0, 10), .inr (0, 10), .inr (0, 10)] (up h 36 7 0) _ _
  rw [up_id (congrFun (e 36 (by decide) (by decide)) 7)]
  refine hX 20 [61] 56 _ _ _ _ _ _ ?_
  show X 61 _ [] [c1, c2, c3, c4, c5, c6, c7, c8, c9, c10, c11, c12, c13, c14, c15, c16, c17, c18, c19, c20, c21, c22, c23, c24, c25, c26, c27, c28, c29, c30, c31, c32, c33, c34, c35, .inl (2, [19, 37, 38, 39, 40, 0, 0, 0, 0]), .inr (0, 10), .inr (0, 10), .inr (0, 10), .inr (0, 10)] (up h 36 8 0) _ _
  rw [up_id (congrFun (e 36 (by decide) (by decide)) 8)]
  refine hX 20 [] 61 _ _ _ _ _ _ ?_
  exact ⟨rfl, rfl, rfl⟩
theorem N_X1 {c1 c2 c3 c4 c5 c6 c7 c8 c9 c10 c11 c12 c13 c14 c15 c16 c17 c18 c19 c20 c21 c22 c23 c24 c25 c26 c27 c28 c29 c30 c31 c32 c33 c34 c35 c36 c37 c38 c39 c40 : CT} {h : HP} (e : ∀ c, 41 ≤ c → c < 80 → h c = fun _ => 0) : Ok 6 [vR 41, vR 19, vR 31] [c1, c2, c3, c4, c5, c6, c7, c8, c9, c10, c11, c12, c13, c14, c15, c16, c17, c18, c19, c20, c21, c22, c23, c24, c25, c26, c27, c28, c29, c30, c31, c32, c33, c34, c35, c36, c37, c38, c39, c40, .inl (0, List.replicate 6 0)] h (rt none [c1, c2, c3, c4, c5, c6, c7, c8, c9, c10, c11, c12, c13, c14, c15, c16, c17, c18, c19, c20, c21, c22, c23, c24, c25, c26, c27, c28, c29, c30, c31, c32, c33, c34, c35, c36, c37, c38, c39, c40, .inl (0, [19, 31, 42, 43, 44, 45]), .inr (1, 24), .inr (1, 64), .inr (0, 64), .inr (0, 64)] h) := by
  refine ok_body B_X1_init rfl (fun X hX => ?_)
  refine hX 20 [9] 0 _ _ _ _ _ _ ?_
  show X 9 _ [] [c1, c2, c3, c4, c5, c6, c7, c8, c9, c10, c11, c12, c13, c14, c15, c16, c17, c18, c19, c20, c21, c22, c23, c24, c25, c26, c27, c28, c29, c30, c31, c32, c33, c34, c35, c36, c37, c38, c39, c40, .inl (0, [19, 0, 0, 0, 0, 0])] h _ _
  refine hX 20 [14] 9 _ _ _ _ _ _ ?_
  show X 14 _ [] [c1, c2, c3, c4, c5, c6, c7, c8, c9, c10, c11, c12, c13, c14, c15, c16, c17, c18, c19, c20, c21, c22, c23, c24, c25, c26, c27, c28, c29, c30, c31, c32, c33, c34, c35, c36, c37, c38, c39, c40, .inl (0, [19, 31, 0, 0, 0, 0])] h _ _
  refine hX 20 [22] 14 _ _ _ _ _ _ ?_
  show X 22 _ [] [c1, c2, c3, c4, c5, c6, c7, c8, c9, c10, c11, c12, c13, c14, c15, c16, c17, c18, c19, c20, c21, c22, c23, c24, c25, c26, c27, c28, c29, c30, c31, c32, c33, c34, c35, c36, c37, c38, c39, c40, .inl (0, [19, 31, 42, 0, 0, 0]), .inr (1, 24)] (upA h 42 (fun _ => 0)) _ _
  rw [upA_id (e 42 (by decide) (by decide))]
  refine hX 20 [30] 22 _ _ _ _ _ _ ?_
  show X 30 _ [] [c1, c2, c3, c4, c5, c6, c7, c8, c9, c10, c11, c12, c13, c14, c15, c16, c17, c18, c19, c20, c21, c22, c23, c24, c25, c26, c27, c28, c29, c30, c31, c32, c33, c34, c35, c36, c37, c38, c39, c40, .inl (0, [19, 31, 42, 43, 0, 0]), .inr (1, 24), .inr (1, 64)] (upA h 43 (fun _ => 0)) _ _
  rw [upA_id (e 43 (by decide) (by decide))]
  refine hX 20 [38] 30 _ _ _ _ _ _ ?_
  show X 38 _ [] [c1, c2, c3, c4, c5, c6, c7, c8, c9, c10, c11, c12, c13, c14, c15, c16, c17, c18, c19, c20, c21, c22, c23, c24, c25, c26, c27, c28, c29, c30, c31, c32, c33, c34, c35, c36, c37, c38, c39, c40, .inl (0, [19, 31, 42, 43, 44, 0]), .inr (1, 24), .inr (1, 64), .inr (0, 64)] (upA h 44 (fun _ => 0)) _ _
  rw [upA_id (e 44 (by decide) (by decide))]
  refine hX 20 [46] 38 _ _ _ _ _ _ ?_
  show X 46 _ [] [c1, c2, c3, c4, c5, c6, c7, c8, c9, c10, c11, c12, c13, c14, c15, c16, c17, c18, c19, c20, c21, c22, c23, c24, c25, c26, c27, c28, c29, c30, c31, c32, c33, c34, c35, c36, c37, c38, c39, c40, .inl (0, [19, 31, 42, 43, 44, 45]), .inr (1, 24), .inr (1, 64), .inr (0, 64), .inr (0, 64)] (upA h 45 (fun _ => 0)) _ _
  rw [upA_id (e 45 (by decide) (by decide))]
  refine hX 20 [] 46 _ _ _ _ _ _ ?_
  exact ⟨rfl, rfl, rfl⟩
theorem N_X5a {c1 c2 c3 c4 c5 c6 c7 c8 c9 c10 c11 c12 c13 c14 c15 c16 c17 c18 c19 c20 c21 c22 c23 c24 c25 c26 c27 c28 c29 c30 c31 c32 c33 c34 c35 c36 c37 c38 c39 c40 c41 c42 c43 c44 c45 : CT} {h : HP} (e : ∀ c, 46 ≤ c → c < 80 → h c = fun _ => 0) : Ok 96 [vR 46, vI 8] [c1, c2, c3, c4, c5, c6, c7, c8, c9, c10, c11, c12, c13, c14, c15, c16, c17, c18, c19, c20, c21, c22, c23, c24, c25, c26, c27, c28, c29, c30, c31, c32, c33, c34, c35, c36, c37, c38, c39, c40, c41, c42, c43, c44, c45, .inl (4, List.replicate 1 0)] h (rt none [c1, c2, c3, c4, c5, c6, c7, c8, c9, c10, c11, c12, c13, c14, c15, c16, c17, c18, c19, c20, c21, c22, c23, c24, c25, c26, c27, c28, c29, c30, c31, c32, c33, c34, c35, c36, c37, c38, c39, c40, c41, c42, c43, c44, c45, .inl (4, [47]), .inr (0, 1056)] h) := by
  refine ok_body B_X5_init rfl (fun X hX => ?_)
  refine hX 20 [13] 0 _ _ _ _ _ _ ?_
  refine And.intro (fun _ => ?_) (fun c => absurd c (by decide))
  refine hX 20 [] 13 _ _ _ _ _ _ ?_
  refine And.intro ⟨by decide, by decide⟩ ?_
  refine ⟨rfl, rfl, ?_⟩
  exact upA_id (e 47 (by decide) (by decide))
theorem N_X5b {c1 c2 c3 c4 c5 c6 c7 c8 c9 c10 c11 c12 c13 c14 c15 c16 c17 c18 c19 c20 c21 c22 c23 c24 c25 c26 c27 c28 c29 c30 c31 c32 c33 c34 c35 c36 c37 c38 c39 c40 c41 c42 c43 c44 c45 c46 c47 : CT} {h : HP} (e : ∀ c, 48 ≤ c → c < 80 → h c = fun _ => 0) : Ok 96 [vR 48, vI 2] [c1, c2, c3, c4, c5, c6, c7, c8, c9, c10, c11, c12, c13, c14, c15, c16, c17, c18, c19, c20, c21, c22, c23, c24, c25, c26, c27, c28, c29, c30, c31, c32, c33, c34, c35, c36, c37, c38, c39, c40, c41, c42, c43, c44, c45, c46, c47, .inl (4, List.replicate 1 0)] h (rt none [c1, c2, c3, c4, c5, c6, c7, c8, c9, c10, c11, c12, c13, c14, c15, c16, c17, c18, c19, c20, c21, c22, c23, c24, c25, c26, c27, c28, c29, c30, c31, c32, c33, c34, c35, c36, c37, c38, c39, c40, c41, c42, c43, c44, c45, c46, c47, .inl (4, [49]), .inr (0, 264)] h) := by
  refine ok_body B_X5_init rfl (fun X hX => ?_)
  refine hX 20 [13] 0 _ _ _ _ _ _ ?_
  refine And.intro (fun _ => ?_) (fun c => absurd c (by decide))
  refine hX 20 [] 13 _ _ _ _ _ _ ?_
  refine And.intro ⟨by decide, by decide⟩ ?_
  refine ⟨rfl, rfl, ?_⟩
  exact upA_id (e 49 (by decide) (by decide))
theorem N_X4 {c1 c2 c3 : CT} {h : HP} (e : ∀ c, 4 ≤ c → c < 80 → h c = fun _ => 0) : Ok 64 [vR 4, vR 2] [c1, c2, c3, .inl (3, List.replicate 12 0)] h (rt none [c1, c2, c3, .inl (3, [2, 5, 13, 15, 16, 17, 18, 0, 0, 0, 0, 0]), .inl (1, [6, 7, 8, 9, 10, 11, 12]), .inr (1, 32), .inr (0, 4), .inr (0, 4), .inr (0, 32), .inr (0, 32), .inr (0, 6), .inr (0, 540), .inl (5, [14]), .inr (0, 132), .inr (0, 1501), .inr (0, 1501), .inr (0, 1501), .inr (1, 1501)] (up (up (up (up (up h 4 7 (0)) 4 8 (0)) 4 9 (-1)) 4 10 (0)) 4 11 (-1))) := by
  refine ok_body B_X4_init rfl (fun X hX => ?_)
  refine hX 20 [9] 0 _ _ _ _ _ _ ?_
  show X 9 _ [] [c1, c2, c3, .inl (3, [2, 0, 0, 0, 0, 0, 0, 0, 0, 0, 0, 0])] h _ _
  refine hX 20 [13] 9 _ _ _ _ _ _ ?_
  show X 13 _ [vR 5, vR 4] [c1, c2, c3, .inl (3, [2, 0, 0, 0, 0, 0, 0, 0, 0, 0, 0, 0]), .inl (1, [0, 0, 0, 0, 0, 0, 0])] (upA h 5 (fun _ => 0)) _ _
  rw [upA_id (e 5 (by decide) (by decide))]
  refine hX 20 [20] 13 _ _ _ _ _ _ ?_
  refine Ok_rt (N_X2a (c1 := c1) (c2 := c2) (c3 := c3) (c4 := .inl (3, [2, 0, 0, 0, 0, 0, 0, 0, 0, 0, 0, 0])) (fun c a b => e c (by omega) b)) ?_
  show X 20 _ [] [c1, c2, c3, .inl (3, [2, 5, 0, 0, 0, 0, 0, 0, 0, 0, 0, 0]), .inl (1, [6, 7, 8, 9, 10, 11, 12]), .inr (1, 32), .inr (0, 4), .inr (0, 4), .inr (0, 32), .inr (0, 32), .inr (0, 6), .inr (0, 540)] h _ _
  refine hX 20 [24] 20 _ _ _ _ _ _ ?_
  show X 24 _ [vR 13, vR 4] [c1, c2, c3, .inl (3, [2, 5, 0, 0, 0, 0, 0, 0, 0, 0, 0, 0]), .inl (1, [6, 7, 8, 9, 10, 11, 12]), .inr (1, 32), .inr (0, 4), .inr (0, 4), .inr (0, 32), .inr (0, 32), .inr (0, 6), .inr (0, 540), .inl (5, [0])] (upA h 13 (fun _ => 0)) _ _
  rw [upA_id (e 13 (by decide) (by decide))]
  refine hX 20 [31] 24 _ _ _ _ _ _ ?_
  refine Ok_rt (N_X6a (c1 := c1) (c2 := c2) (c3 := c3) (c4 := .inl (3, [2, 5, 0, 0, 0, 0, 0, 0, 0, 0, 0, 0])) (c5 := .inl (1, [6, 7, 8, 9, 10, 11, 12])) (c6 := .inr (1, 32)) (c7 := .inr (0, 4)) (c8 := .inr (0, 4)) (c9 := .inr (0, 32)) (c10 := .inr (0, 32)) (c11 := .inr (0, 6)) (c12 := .inr (0, 540)) (fun c a b => e c (by omega) b)) ?_
  show X 31 _ [] [c1, c2, c3, .inl (3, [2, 5, 13, 0, 0, 0, 0, 0, 0, 0, 0, 0]), .inl (1, [6, 7, 8, 9, 10, 11, 12]), .inr (1, 32), .inr (0, 4), .inr (0, 4), .inr (0, 32), .inr (0, 32), .inr (0, 6), .inr (0, 540), .inl (5, [14]), .inr (0, 132)] h _ _
  refine hX 20 [40] 31 _ _ _ _ _ _ ?_
  show X 40 _ [] [c1, c2, c3, .inl (3, [2, 5, 13, 15, 0, 0, 0, 0, 0, 0, 0, 0]), .inl (1, [6, 7, 8, 9, 10, 11, 12]), .inr (1, 32), .inr (0, 4), .inr (0, 4), .inr (0, 32), .inr (0, 32), .inr (0, 6), .inr (0, 540), .inl (5, [14]), .inr (0, 132), .inr (0, 1501)] (upA h 15 (fun _ => 0)) _ _
  rw [upA_id (e 15 (by decide) (by decide))]
  refine hX 20 [49] 40 _ _ _ _ _ _ ?_
  show X 49 _ [] [c1, c2, c3, .inl (3, [2, 5, 13, 15, 16, 0, 0, 0, 0, 0, 0, 0]), .inl (1, [6, 7, 8, 9, 10, 11, 12]), .inr (1, 32), .inr (0, 4), .inr (0, 4), .inr (0, 32), .inr (0, 32), .inr (0, 6), .inr (0, 540), .inl (5, [14]), .inr (0, 132), .inr (0, 1501), .inr (0, 1501)] (upA h 16 (fun _ => 0)) _ _
  rw [upA_id (e 16 (by decide) (by decide))]
  refine hX 20 [58] 49 _ _ _ _ _ _ ?_
  show X 58 _ [] [c1, c2, c3, .inl (3, [2, 5, 13, 15, 16, 17, 0, 0, 0, 0, 0, 0]), .inl (1, [6, 7, 8, 9, 10, 11, 12]), .inr (1, 32), .inr (0, 4), .inr (0, 4), .inr (0, 32), .inr (0, 32), .inr (0, 6), .inr (0, 540), .inl (5, [14]), .inr (0, 132), .inr (0, 1501), .inr (0, 1501), .inr (0, 1501)] (upA h 17 (fun _ => 0)) _ _
  rw [upA_id (e 17 (by decide) (by decide))]
  refine hX 20 [67] 58 _ _ _ _ _ _ ?_
  show X 67 _ [] [c1, c2, c3, .inl (3, [2, 5, 13, 15, 16, 17, 18, 0, 0, 0, 0, 0]), .inl (1, [6, 7, 8, 9, 10, 11, 12]), .inr (1, 32), .inr (0, 4), .inr (0, 4), .inr (0, 32), .inr (0, 32), .inr (0, 6), .inr (0, 540), .inl (5, [14]), .inr (0, 132), .inr (0, 1501), .inr (0, 1501), .inr (0, 1501), .inr (1, 1501)] (upA h 18 (fun _ => 0)) _ _
  rw [upA_id (e 18 (by decide) (by decide))]
  refine hX 20 [72] 67 _ _ _ _ _ _ ?_
  show X 72 _ [] [c1, c2, c3, .inl (3, [2, 5, 13, 15, 16, 17, 18, 0, 0, 0, 0, 0]), .inl (1, [6, 7, 8, 9, 10, 11, 12]), .inr (1, 32), .inr (0, 4), .inr (0, 4), .inr (0, 32), .inr (0, 32), .inr (0, 6), .inr (0, 540), .inl (5, [14]), .inr (0, 132), .inr (0, 1501), .inr (0, 1501), .inr (0, 1501), .inr (1, 1501)] (up h 4 7 (0)) _ _
  refine hX 20 [77] 72 _ _ _ _ _ _ ?_
  show X 77 _ [] [c1, c2, c3, .inl (3, [2, 5, 13, 15, 16, 17, 18, 0, 0, 0, 0, 0]), .inl (1, [6, 7, 8, 9, 10, 11, 12]), .inr (1, 32), .inr (0, 4), .inr (0, 4), .inr (0, 32), .inr (0, 32), .inr (0, 6), .inr (0, 540), .inl (5, [14]), .inr (0, 132), .inr (0, 1501), .inr (0, 1501), .inr (0, 1501), .inr (1, 1501)] (up (up h 4 7 (0)) 4 8 (0)) _ _
  refine hX 20 [82] 77 _ _ _ _ _ _ ?_
  show X 82 _ [] [c1, c2, c3, .inl (3, [2, 5, 13, 15, 16, 17, 18, 0, 0, 0, 0, 0]), .inl (1, [6, 7, 8, 9, 10, 11, 12]), .inr (1, 32), .inr (0, 4), .inr (0, 4), .inr (0, 32), .inr (0, 32), .inr (0, 6), .inr (0, 540), .inl (5, [14]), .inr (0, 132), .inr (0, 1501), .inr (0, 1501), .inr (0, 1501), .inr (1, 1501)] (up (up (up h 4 7 (0)) 4 8 (0)) 4 9 (-1)) _ _
  refine hX 20 [87] 82 _ _ _ _ _ _ ?_
  show X 87 _ [] [c1, c2, c3, .inl (3, [2, 5, 13, 15, 16, 17, 18, 0, 0, 0, 0, 0]), .inl (1, [6, 7, 8, 9, 10, 11, 12]), .inr (1, 32), .inr (0, 4), .inr (0, 4), .inr (0, 32), .inr (0, 32), .inr (0, 6), .inr (0, 540), .inl (5, [14]), .inr (0, 132), .inr (0, 1501), .inr (0, 1501), .inr (0, 1501), .inr (1, 1501)] (up (up (up (up h 4 7 (0)) 4 8 (0)) 4 9 (-1)) 4 10 (0)) _ _
  refine hX 20 [92] 87 _ _ _ _ _ _ ?_
  show X 92 _ [] [c1, c2, c3, .inl (3, [2, 5, 13, 15, 16, 17, 18, 0, 0, 0, 0, 0]), .inl (1, [6, 7, 8, 9, 10, 11, 12]), .inr (1, 32), .inr (0, 4), .inr (0, 4), .inr (0, 32), .inr (0, 32), .inr (0, 6), .inr (0, 540), .inl (5, [14]), .inr (0, 132), .inr (0, 1501), .inr (0, 1501), .inr (0, 1501), .inr (1, 1501)] (up (up (up (up (up h 4 7 (0)) 4 8 (0)) 4 9 (-1)) 4 10 (0)) 4 11 (-1)) _ _
  refine hX 20 [] 92 _ _ _ _ _ _ ?_
  exact ⟨rfl, rfl, rfl⟩
theorem z_R4 {s : Nat → Int} {l : Int} : up (up (up (up (up (zS s l hO) 4 7 (0)) 4 8 (0)) 4 9 (-1)) 4 10 (0)) 4 11 (-1) = zS s l hR4 := by
  rw [z_up _ (by decide), z_up _ (by decide), z_up _ (by decide), z_up _ (by decide), z_up _ (by decide)]
  rfl
theorem K_new {s : Nat → Int} {l : Int} : Ok 125 [vR 1] [.inl (7, List.replicate 15 0)] (zS s l hO) (rt none (LC []) (zS s l hC)) := by
  have eO : ∀ c, 1 ≤ c → c < 80 → zS s l hO c = fun _ => 0 := fun c a b => z_c hO (by omega)
  have eR : ∀ c, 5 ≤ c → c < 80 → zS s l hR4 c = fun _ => 0 := fun c a b => by
    rw [z_c _ (by omega)]
    unfold hR4
    rw [up_cell (by omega), up_cell (by omega), up_cell (by omega), up_cell (by omega), up_cell (by omega)]
    rfl
  refine ok_body B_X8_init rfl (fun X hX => ?_)
  refine hX 20 [8] 0 _ _ _ _ _ _ ?_
  show X 8 _ [vR 2, vR 1] [.inl (7, [0, 0, 0, 0, 0, 0, 0, 0, 0, 0, 0, 0, 0, 0, 0]), .inl (6, [0, 0])] (upA (zS s l hO) 2 (fun _ => 0)) _ _
  rw [upA_id (eO 2 (by decide) (by decide))]
  refine hX 20 [15] 8 _ _ _ _ _ _ ?_
  refine Ok_rt (N_X7 (c1 := .inl (7, [0, 0, 0, 0, 0, 0, 0, 0, 0, 0, 0, 0, 0, 0, 0])) (fun c a b => eO c (by omega) b)) ?_
  show X 15 _ [] [.inl (7, [2, 0, 0, 0, 0, 0, 0, 0, 0, 0, 0, 0, 0, 0, 0]), .inl (6, [3, 0]), .inr (2, 1500)] (zS s l hO) _ _
  refine hX 20 [19] 15 _ _ _ _ _ _ ?_
  show X 19 _ [vR 4, vR 1] [.inl (7, [2, 0, 0, 0, 0, 0, 0, 0, 0, 0, 0, 0, 0, 0, 0]), .inl (6, [3, 0]), .inr (2, 1500), .inl (3, [0, 0, 0, 0, 0, 0, 0, 0, 0, 0, 0, 0])] (upA (zS s l hO) 4 (fun _ => 0)) _ _
  rw [upA_id (eO 4 (by decide) (by decide))]
  refine hX 20 [30] 19 _ _ _ _ _ _ ?_
  refine Ok_rt (N_X4 (c1 := .inl (7, [2, 0, 0, 0, 0, 0, 0, 0, 0, 0, 0, 0, 0, 0, 0])) (c2 := .inl (6, [3, 0])) (c3 := .inr (2, 1500)) (fun c a b => eO c (by omega) b)) ?_
  show X 30 _ [] [.inl (7, [2, 4, 0, 0, 0, 0, 0, 0, 0, 0, 0, 0, 0, 0, 0]), .inl (6, [3, 0]), .inr (2, 1500), .inl (3, [2, 5, 13, 15, 16, 17, 18, 0, 0, 0, 0, 0]), .inl (1, [6, 7, 8, 9, 10, 11, 12]), .inr (1, 32), .inr (0, 4), .inr (0, 4), .inr (0, 32), .inr (0, 32), .inr (0, 6), .inr (0, 540), .inl (5, [14]), .inr (0, 132), .inr (0, 1501), .inr (0, 1501), .inr (0, 1501), .inr (1, 1501)] (up (up (up (up (up (zS s l hO) 4 7 (0)) 4 8 (0)) 4 9 (-1)) 4 10 (0)) 4 11 (-1)) _ _
  rw [z_R4]
  refine hX 20 [34] 30 _ _ _ _ _ _ ?_
  show X 34 _ [vR 19, vR 1] [.inl (7, [2, 4, 0, 0, 0, 0, 0, 0, 0, 0, 0, 0, 0, 0, 0]), .inl (6, [3, 0]), .inr (2, 1500), .inl (3, [2, 5, 13, 15, 16, 17, 18, 0, 0, 0, 0, 0]), .inl (1, [6, 7, 8, 9, 10, 11, 12]), .inr (1, 32), .inr (0, 4), .inr (0, 4), .inr (0, 32), .inr (0, 32), .inr (0, 6), .inr (0, 540), .inl (5, [14]), .inr (0, 132), .inr (0, 1501), .inr (0, 1501), .inr (0, 1501), .inr (1, 1501), .inl (1, [0, 0, 0, 0, 0, 0, 0])] (upA (zS s l hR4) 19 (fun _ => 0)) _ _
  rw [upA_id (eR 19 (by decide) (by decide))]
  refine hX 20 [41] 34 _ _ _ _ _ _ ?_
  refine Ok_rt (N_X2b (c1 := .inl (7, [2, 4, 0, 0, 0, 0, 0, 0, 0, 0, 0, 0, 0, 0, 0])) (c2 := .inl (6, [3, 0])) (c3 := .inr (2, 1500)) (c4 := .inl (3, [2, 5, 13, 15, 16, 17, 18, 0, 0, 0, 0, 0])) (c5 := .inl (1, [6, 7, 8, 9, 10, 11, 12])) (c6 := .inr (1, 32)) (c7 := .inr (0, 4)) (c8 := .inr (0, 4)) (c9 := .inr (0, 32)) (c10 := .inr (0, 32)) (c11 := .inr (0, 6)) (c12 := .inr (0, 540)) (c13 := .inl (5, [14])) (c14 := .inr (0, 132)) (c15 := .inr (0, 1501)) (c16 := .inr (0, 1501)) (c17 := .inr (0, 1501)) (c18 := .inr (1, 1501)) (fun c a b => eR c (by omega) b)) ?_
  show X 41 _ [] [.inl (7, [2, 4, 19, 0, 0, 0, 0, 0, 0, 0, 0, 0, 0, 0, 0]), .inl (6, [3, 0]), .inr (2, 1500), .inl (3, [2, 5, 13, 15, 16, 17, 18, 0, 0, 0, 0, 0]), .inl (1, [6, 7, 8, 9, 10, 11, 12]), .inr (1, 32), .inr (0, 4), .inr (0, 4), .inr (0, 32), .inr (0, 32), .inr (0, 6), .inr (0, 540), .inl (5, [14]), .inr (0, 132), .inr (0, 1501), .inr (0, 1501), .inr (0, 1501), .inr (1, 1501), .inl (1, [20, 21, 22, 23, 24, 25, 26]), .inr (1, 32), .inr (0, 4), .inr (0, 4), .inr (0, 32), .inr (0, 32), .inr (0, 6), .inr (0, 540)] (zS s l hR4) _ _
  refine hX 20 [45] 41 _ _ _ _ _ _ ?_
  show X 45 _ [vR 27, vR 1] [.inl (7, [2, 4, 19, 0, 0, 0, 0, 0, 0, 0, 0, 0, 0, 0, 0]), .inl (6, [3, 0]), .inr (2, 1500), .inl (3, [2, 5, 13, 15, 16, 17, 18, 0, 0, 0, 0, 0]), .inl (1, [6, 7, 8, 9, 10, 11, 12]), .inr (1, 32), .inr (0, 4), .inr (0, 4), .inr (0, 32), .inr (0, 32), .inr (0, 6), .inr (0, 540), .inl (5, [14]), .inr (0, 132), .inr (0, 1501), .inr (0, 1501), .inr (0, 1501), .inr (1, 1501), .inl (1, [20, 21, 22, 23, 24, 25, 26]), .inr (1, 32), .inr (0, 4), .inr (0, 4), .inr (0, 32), .inr (0, 32), .inr (0, 6), .inr (0, 540), .inl (5, [0])] (upA (zS s l hR4) 27 (fun _ => 0)) _ _
  rw [upA_id (eR 27 (by decide) (by decide))]
  refine hX 20 [52] 45 _ _ _ _ _ _ ?_
  refine Ok_rt (N_X6b (c1 := .inl (7, [2, 4, 19, 0, 0, 0, 0, 0, 0, 0, 0, 0, 0, 0, 0])) (c2 := .inl (6, [3, 0])) (c3 := .inr (2, 1500)) (c4 := .inl (3, [2, 5, 13, 15, 16, 17, 18, 0, 0, 0, 0, 0])) (c5 := .inl (1, [6, 7, 8, 9, 10, 11, 12])) (c6 := .inr (1, 32)) (c7 := .inr (0, 4)) (c8 := .inr (0, 4)) (c9 := .inr (0, 32)) (c10 := .inr (0, 32)) (c11 := .inr (0, 6)) (c12 := .inr (0, 540)) (c13 := .inl (5, [14])) (c14 := .inr (0, 132)) (c15 := .inr (0, 1501)) (c16 := .inr (0, 1501)) (c17 := .inr (0, 1501)) (c18 := .inr (1, 1501)) (c19 := .inl (1, [20, 21, 22, 23, 24, 25, 26])) (c20 := .inr (1, 32)) (c21 := .inr (0, 4)) (c22 := .inr (0, 4)) (c23 := .inr (0, 32)) (c24 := .inr (0, 32)) (c25 := .inr (0, 6)) (c26 := .inr (0, 540)) (fun c a b => eR c (by omega) b)) ?_
  show X 52 _ [] [.inl (7, [2, 4, 19, 27, 0, 0, 0, 0, 0, 0, 0, 0, 0, 0, 0]), .inl (6, [3, 0]), .inr (2, 1500), .inl (3, [2, 5, 13, 15, 16, 17, 18, 0, 0, 0, 0, 0]), .inl (1, [6, 7, 8, 9, 10, 11, 12]), .inr (1, 32), .inr (0, 4), .inr (0, 4), .inr (0, 32), .inr (0, 32), .inr (0, 6), .inr (0, 540), .inl (5, [14]), .inr (0, 132), .inr (0, 1501), .inr (0, 1501), .inr (0, 1501), .inr (1, 1501), .inl (1, [20, 21, 22, 23, 24, 25, 26]), .inr (1, 32), .inr (0, 4), .inr (0, 4), .inr (0, 32), .inr (0, 32), .inr (0, 6), .inr (0, 540), .inl (5, [28]), .inr (0, 132)] (zS s l hR4) _ _
  refine hX 20 [56] 52 _ _ _ _ _ _ ?_
  show X 56 _ [vR 29, vR 1] [.inl (7, [2, 4, 19, 27, 0, 0, 0, 0, 0, 0, 0, 0, 0, 0, 0]), .inl (6, [3, 0]), .inr (2, 1500), .inl (3, [2, 5, 13, 15, 16, 17, 18, 0, 0, 0, 0, 0]), .inl (1, [6, 7, 8, 9, 10, 11, 12]), .inr (1, 32), .inr (0, 4), .inr (0, 4), .inr (0, 32), .inr (0, 32), .inr (0, 6), .inr (0, 540), .inl (5, [14]), .inr (0, 132), .inr (0, 1501), .inr (0, 1501), .inr (0, 1501), .inr (1, 1501), .inl (1, [20, 21, 22, 23, 24, 25, 26]), .inr (1, 32), .inr (0, 4), .inr (0, 4), .inr (0, 32), .inr (0, 32), .inr (0, 6), .inr (0, 540), .inl (5, [28]), .inr (0, 132), .inl (5, [0])] (upA (zS s l hR4) 29 (fun _ => 0)) _ _
  rw [upA_id (eR 29 (by decide) (by decide))]
  refine hX 20 [63] 56 _ _ _ _ _ _ ?_
  refine Ok_rt (N_X6c (c1 := .inl (7, [2, 4, 19, 27, 0, 0, 0, 0, 0, 0, 0, 0, 0, 0, 0])) (c2 := .inl (6, [3, 0])) (c3 := .inr (2, 1500)) (c4 := .inl (3, [2, 5, 13, 15, 16, 17, 18, 0, 0, 0, 0, 0])) (c5 := .inl (1, [6, 7, 8, 9, 10, 11, 12])) (c6 := .inr (1, 32)) (c7 := .inr (0, 4)) (c8 := .inr (0, 4)) (c9 := .inr (0, 32)) (c10 := .inr (0, 32)) (c11 := .inr (0, 6)) (c12 := .inr (0, 540)) (c13 := .inl (5, [14])) (c14 := .inr (0, 132)) (c15 := .inr (0, 1501)) (c16 := .inr (0, 1501)) (c17 := .inr (0, 1501)) (c18 := .inr (1, 1501)) (c19 := .inl (1, [20, 21, 22, 23, 24, 25, 26])) (c20 := .inr (1, 32)) (c21 := .inr (0, 4)) (c22 := .inr (0, 4)) (c23 := .inr (0, 32)) (c24 := .inr (0, 32)) (c25 := .inr (0, 6)) (c26 := .inr (0, 540)) (c27 := .inl (5, [28])) (c28 := .inr (0, 132)) (fun c a b => eR c (by omega) b)) ?_
  show X 63 _ [] [.inl (7, [2, 4, 19, 27, 29, 0, 0, 0, 0, 0, 0, 0, 0, 0, 0]), .inl (6, [3, 0]), .inr (2, 1500), .inl (3, [2, 5, 13, 15, 16, 17, 18, 0, 0, 0, 0, 0]), .inl (1, [6, 7, 8, 9, 10, 11, 12]), .inr (1, 32), .inr (0, 4), .inr (0, 4), .inr (0, 32), .inr (0, 32), .inr (0, 6), .inr (0, 540), .inl (5, [14]), .inr (0, 132), .inr (0, 1501), .inr (0, 1501), .inr (0, 1501), .inr (1, 1501), .inl (1, [20, 21, 22, 23, 24, 25, 26]), .inr (1, 32), .inr (0, 4), .inr (0, 4), .inr (0, 32), .inr (0, 32), .inr (0, 6), .inr (0, 540), .inl (5, [28]), .inr (0, 132), .inl (5, [30]), .inr (0, 132)] (zS s l hR4) _ _
  refine hX 20 [67] 63 _ _ _ _ _ _ ?_
  show X 67 _ [vR 31, vR 1] [.inl (7, [2, 4, 19, 27, 29, 0, 0, 0, 0, 0, 0, 0, 0, 0, 0]), .inl (6, [3, 0]), .inr (2, 1500), .inl (3, [2, 5, 13, 15, 16, 17, 18, 0, 0, 0, 0, 0]), .inl (1, [6, 7, 8, 9, 10, 11, 12]), .inr (1, 32), .inr (0, 4), .inr (0, 4), .inr (0, 32), .inr (0, 32), .inr (0, 6), .inr (0, 540), .inl (5, [14]), .inr (0, 132), .inr (0, 1501), .inr (0, 1501), .inr (0, 1501), .inr (1, 1501), .inl (1, [20, 21, 22, 23, 24, 25, 26]), .inr (1, 32), .inr (0, 4), .inr (0, 4), .inr (0, 32), .inr (0, 32), .inr (0, 6), .inr (0, 540), .inl (5, [28]), .inr (0, 132), .inl (5, [30]), .inr (0, 132), .inl (2, [0, 0, 0, 0, 0, 0, 0, 0, 0])] (upA (zS s l hR4) 31 (fun _ => 0)) _ _
  rw [upA_id (eR 31 (by decide) (by decide))]
  refine hX 20 [78] 67 _ _ _ _ _ _ ?_
  refine Ok_rt (N_X3a (c1 := .inl (7, [2, 4, 19, 27, 29, 0, 0, 0, 0, 0, 0, 0, 0, 0, 0])) (c2 := .inl (6, [3, 0])) (c3 := .inr (2, 1500)) (c4 := .inl (3, [2, 5, 13, 15, 16, 17, 18, 0, 0, 0, 0, 0])) (c5 := .inl (1, [6, 7, 8, 9, 10, 11, 12])) (c6 := .inr (1, 32)) (c7 := .inr (0, 4)) (c8 := .inr (0, 4)) (c9 := .inr (0, 32)) (c10 := .inr (0, 32)) (c11 := .inr (0, 6)) (c12 := .inr (0, 540)) (c13 := .inl (5, [14])) (c14 := .inr (0, 132)) (c15 := .inr (0, 1501)) (c16 := .inr (0, 1501)) (c17 := .inr (0, 1501)) (c18 := .inr (1, 1501)) (c19 := .inl (1, [20, 21, 22, 23, 24, 25, 26])) (c20 := .inr (1, 32)) (c21 := .inr (0, 4)) (c22 := .inr (0, 4)) (c23 := .inr (0, 32)) (c24 := .inr (0, 32)) (c25 := .inr (0, 6)) (c26 := .inr (0, 540)) (c27 := .inl (5, [28])) (c28 := .inr (0, 132)) (c29 := .inl (5, [30])) (c30 := .inr (0, 132)) (fun c a b => eR c (by omega) b)) ?_
  show X 78 _ [] [.inl (7, [2, 4, 19, 27, 29, 31, 0, 0, 0, 0, 0, 0, 0, 0, 0]), .inl (6, [3, 0]), .inr (2, 1500), .inl (3, [2, 5, 13, 15, 16, 17, 18, 0, 0, 0, 0, 0]), .inl (1, [6, 7, 8, 9, 10, 11, 12]), .inr (1, 32), .inr (0, 4), .inr (0, 4), .inr (0, 32), .inr (0, 32), .inr (0, 6), .inr (0, 540), .inl (5, [14]), .inr (0, 132), .inr (0, 1501), .inr (0, 1501), .inr (0, 1501), .inr (1, 1501), .inl (1, [20, 21, 22, 23, 24, 25, 26]), .inr (1, 32), .inr (0, 4), .inr (0, 4), .inr (0, 32), .inr (0, 32), .inr (0, 6), .inr (0, 540), .inl (5, [28]), .inr (0, 132), .inl (5, [30]), .inr (0, 132), .inl (2, [19, 32, 33, 34, 35, 0, 0, 0, 0]), .inr (0, 10), .inr (0, 10), .inr (0, 10), .inr (0, 10)] (zS s l hR4) _ _
  refine hX 20 [82] 78 _ _ _ _ _ _ ?_
  show X 82 _ [vR 36, vR 1] [.inl (7, [2, 4, 19, 27, 29, 31, 0, 0, 0, 0, 0, 0, 0, 0, 0]), .inl (6, [3, 0]), .inr (2, 1500), .inl (3, [2, 5, 13, 15, 16, 17, 18, 0, 0, 0, 0, 0]), .inl (1, [6, 7, 8, 9, 10, 11, 12]), .inr (1, 32), .inr (0, 4), .inr (0, 4), .inr (0, 32), .inr (0, 32), .inr (0, 6), .inr (0, 540), .inl (5, [14]), .inr (0, 132), .inr (0, 1501), .inr (0, 1501), .inr (0, 1501), .inr (1, 1501), .inl (1, [20, 21, 22, 23, 24, 25, 26]), .inr (1, 32), .inr (0, 4), .inr (0, 4), .inr (0, 32), .inr (0, 32), .inr (0, 6), .inr (0, 540), .inl (5, [28]), .inr (0, 132), .inl (5, [30]), .inr (0, 132), .inl (2, [19, 32, 33, 34, 35, 0, 0, 0, 0]), .inr (0, 10), .inr (0, 10), .inr (0, 10), .inr (0, 10), .inl (2, [0, 0, 0, 0, 0, 0, 0, 0, 0])] (upA (zS s l hR4) 36 (fun _ => 0)) _ _
  rw [upA_id (eR 36 (by decide) (by decide))]
  refine hX 20 [93] 82 _ _ _ _ _ _ ?_
  refine Ok_rt (N_X3b (c1 := .inl (7, [2, 4, 19, 27, 29, 31, 0, 0, 0, 0, 0, 0, 0, 0, 0])) (c2 := .inl (6, [3, 0])) (c3 := .inr (2, 1500)) (c4 := .inl (3, [2, 5, 13, 15, 16, 17, 18, 0, 0, 0, 0, 0])) (c5 := .inl (1, [6, 7, 8, 9, 10, 11, 12])) (c6 := .inr (1, 32)) (c7 := .inr (0, 4)) (c8 := .inr (0, 4)) (c9 := .inr (0, 32)) (c10 := .inr (0, 32)) (c11 := .inr (0, 6)) (c12 := .inr (0, 540)) (c13 := .inl (5, [14])) (c14 := .inr (0, 132)) (c15 := .inr (0, 1501)) (c16 := .inr (0, 1501)) (c17 := .inr (0, 1501)) (c18 := .inr (1, 1501)) (c19 := .inl (1, [20, 21, 22, 23, 24, 25, 26])) (c20 := .inr (1, 32)) (c21 := .inr (0, 4)) (c22 := .inr (0, 4)) (c23 := .inr (0, 32)) (c24 := .inr (0, 32)) (c25 := .inr (0, 6)) (c26 := .inr (0, 540)) (c27 := .inl (5, [28])) (c28 := .inr (0, 132)) (c29 := .inl (5, [30])) (c30 := .inr (0, 132)) (c31 := .inl (2, [19, 32, 33, 34, 35, 0, 0, 0, 0])) (c32 := .inr (0, 10)) (c33 := .inr (0, 10)) (c34 := .inr (0, 10)) (c35 := .inr (0, 10)) (fun c a b => eR c (by omega) b)) ?_
  show X 93 _ [] [.inl (7, [2, 4, 19, 27, 29, 31, 36, 0, 0, 0, 0, 0, 0, 0, 0]), .inl (6, [3, 0]), .inr (2, 1500), .inl (3, [2, 5, 13, 15, 16, 17, 18, 0, 0, 0, 0, 0]), .inl (1, [6, 7, 8, 9, 10, 11, 12]), .inr (1, 32), .inr (0, 4), .inr (0, 4), .inr (0, 32), .inr (0, 32), .inr (0, 6), .inr (0, 540), .inl (5, [14]), .inr (0, 132), .inr (0, 1501), .inr (0, 1501), .inr (0, 1501), .inr (1, 1501), .inl (1, [20, 21, 22, 23, 24, 25, 26]), .inr (1, 32), .inr (0, 4), .inr (0, 4), .inr (0, 32), .inr (0, 32), .inr (0, 6), .inr (0, 540), .inl (5, [28]), .inr (0, 132), .inl (5, [30]), .inr (0, 132), .inl (2, [19, 32, 33, 34, 35, 0, 0, 0, 0]), .inr (0, 10), .inr (0, 10), .inr (0, 10), .inr (0, 10), .inl (2, [19, 37, 38, 39, 40, 0, 0, 0, 0]), .inr (0, 10), .inr (0, 10), .inr (0, 10), .inr (0, 10)] (zS s l hR4) _ _
  refine hX 20 [97] 93 _ _ _ _ _ _ ?_
  show X 97 _ [vR 41, vR 1] [.inl (7, [2, 4, 19, 27, 29, 31, 36, 0, 0, 0, 0, 0, 0, 0, 0]), .inl (6, [3, 0]), .inr (2, 1500), .inl (3, [2, 5, 13, 15, 16, 17, 18, 0, 0, 0, 0, 0]), .inl (1, [6, 7, 8, 9, 10, 11, 12]), .inr (1, 32), .inr (0, 4), .inr (0, 4), .inr (0, 32), .inr (0, 32), .inr (0, 6), .inr (0, 540), .inl (5, [14]), .inr (0, 132), .inr (0, 1501), .inr (0, 1501), .inr (0, 1501), .inr (1, 1501), .inl (1, [20, 21, 22, 23, 24, 25, 26]), .inr (1, 32), .inr (0, 4), .inr (0, 4), .inr (0, 32), .inr (0, 32), .inr (0, 6), .inr (0, 540), .inl (5, [28]), .inr (0, 132), .inl (5, [30]), .inr (0, 132), .inl (2, [19, 32, 33, 34, 35, 0, 0, 0, 0]), .inr (0, 10), .inr (0, 10), .inr (0, 10), .inr (0, 10), .inl (2, [19, 37, 38, 39, 40, 0, 0, 0, 0]), .inr (0, 10), .inr (0, 10), .inr (0, 10), .inr (0, 10), .inl (0, [0, 0, 0, 0, 0, 0])] (upA (zS s l hR4) 41 (fun _ => 0)) _ _
  rw [upA_id (eR 41 (by decide) (by decide))]
  refine hX 20 [112] 97 _ _ _ _ _ _ ?_
  refine Ok_rt (N_X1 (c1 := .inl (7, [2, 4, 19, 27, 29, 31, 36, 0, 0, 0, 0, 0, 0, 0, 0])) (c2 := .inl (6, [3, 0])) (c3 := .inr (2, 1500)) (c4 := .inl (3, [2, 5, 13, 15, 16, 17, 18, 0, 0, 0, 0, 0])) (c5 := .inl (1, [6, 7, 8, 9, 10, 11, 12])) (c6 := .inr (1, 32)) (c7 := .inr (0, 4)) (c8 := .inr (0, 4)) (c9 := .inr (0, 32)) (c10 := .inr (0, 32)) (c11 := .inr (0, 6)) (c12 := .inr (0, 540)) (c13 := .inl (5, [14])) (c14 := .inr (0, 132)) (c15 := .inr (0, 1501)) (c16 := .inr (0, 1501)) (c17 := .inr (0, 1501)) (c18 := .inr (1, 1501)) (c19 := .inl (1, [20, 21, 22, 23, 24, 25, 26])) (c20 := .inr (1, 32)) (c21 := .inr (0, 4)) (c22 := .inr (0, 4)) (c23 := .inr (0, 32)) (c24 := .inr (0, 32)) (c25 := .inr (0, 6)) (c26 := .inr (0, 540)) (c27 := .inl (5, [28])) (c28 := .inr (0, 132)) (c29 := .inl (5, [30])) (c30 := .inr (0, 132)) (c31 := .inl (2, [19, 32, 33, 34, 35, 0, 0, 0, 0])) (c32 := .inr (0, 10)) (c33 := .inr (0, 10)) (c34 := .inr (0, 10)) (c35 := .inr (0, 10)) (c36 := .inl (2, [19, 37, 38, 39, 40, 0, 0, 0, 0])) (c37 := .inr (0, 10)) (c38 := .inr (0, 10)) (c39 := .inr (0, 10)) (c40 := .inr (0, 10)) (fun c a b => eR c (by omega) b)) ?_
  show X 112 _ [] [.inl (7, [2, 4, 19, 27, 29, 31, 36, 41, 0, 0, 0, 0, 0, 0, 0]), .inl (6, [3, 0]), .inr (2, 1500), .inl (3, [2, 5, 13, 15, 16, 17, 18, 0, 0, 0, 0, 0]), .inl (1, [6, 7, 8, 9, 10, 11, 12]), .inr (1, 32), .inr (0, 4), .inr (0, 4), .inr (0, 32), .inr (0, 32), .inr (0, 6), .inr (0, 540), .inl (5, [14]), .inr (0, 132), .inr (0, 1501), .inr (0, 1501), .inr (0, 1501), .inr (1, 1501), .inl (1, [20, 21, 22, 23, 24, 25, 26]), .inr (1, 32), .inr (0, 4), .inr (0, 4), .inr (0, 32), .inr (0, 32), .inr (0, 6), .inr (0, 540), .inl (5, [28]), .inr (0, 132), .inl (5, [30]), .inr (0, 132), .inl (2, [19, 32, 33, 34, 35, 0, 0, 0, 0]), .inr (0, 10), .inr (0, 10), .inr (0, 10), .inr (0, 10), .inl (2, [19, 37, 38, 39, 40, 0, 0, 0, 0]), .inr (0, 10), .inr (0, 10), .inr (0, 10), .inr (0, 10), .inl (0, [19, 31, 42, 43, 44, 45]), .inr (1, 24), .inr (1, 64), .inr (0, 64), .inr (0, 64)] (zS s l hR4) _ _
  refine hX 20 [116] 112 _ _ _ _ _ _ ?_
  show X 116 _ [vR 46, vR 1] [.inl (7, [2, 4, 19, 27, 29, 31, 36, 41, 0, 0, 0, 0, 0, 0, 0]), .inl (6, [3, 0]), .inr (2, 1500), .inl (3, [2, 5, 13, 15, 16, 17, 18, 0, 0, 0, 0, 0]), .inl (1, [6, 7, 8, 9, 10, 11, 12]), .inr (1, 32), .inr (0, 4), .inr (0, 4), .inr (0, 32), .inr (0, 32), .inr (0, 6), .inr (0, 540), .inl (5, [14]), .inr (0, 132), .inr (0, 1501), .inr (0, 1501), .inr (0, 1501), .inr (1, 1501), .inl (1, [20, 21, 22, 23, 24, 25, 26]), .inr (1, 32), .inr (0, 4), .inr (0, 4), .inr (0, 32), .inr (0, 32), .inr (0, 6), .inr (0, 540), .inl (5, [28]), .inr (0, 132), .inl (5, [30]), .inr (0, 132), .inl (2, [19, 32, 33, 34, 35, 0, 0, 0, 0]), .inr (0, 10), .inr (0, 10), .inr (0, 10), .inr (0, 10), .inl (2, [19, 37, 38, 39, 40, 0, 0, 0, 0]), .inr (0, 10), .inr (0, 10), .inr (0, 10), .inr (0, 10), .inl (0, [19, 31, 42, 43, 44, 45]), .inr (1, 24), .inr (1, 64), .inr (0, 64), .inr (0, 64), .inl (4, [0])] (upA (zS s l hR4) 46 (fun _ => 0)) _ _
  rw [upA_id (eR 46 (by decide) (by decide))]
  refine hX 20 [125] 116 _ _ _ _ _ _ ?_
  refine Ok_rt (N_X5a (c1 := .inl (7, [2, 4, 19, 27, 29, 31, 36, 41, 0, 0, 0, 0, 0, 0, 0])) (c2 := .inl (6, [3, 0])) (c3 := .inr (2, 1500)) (c4 := .inl (3, [2, 5, 13, 15, 16, 17, 18, 0, 0, 0, 0, 0])) (c5 := .inl (1, [6, 7, 8, 9, 10, 11, 12])) (c6 := .inr (1, 32)) (c7 := .inr (0, 4)) (c8 := .inr (0, 4)) (c9 := .inr (0, 32)) (c10 := .inr (0, 32)) (c11 := .inr (0, 6)) (c12 := .inr (0, 540)) (c13 := .inl (5, [14])) (c14 := .inr (0, 132)) (c15 := .inr (0, 1501)) (c16 := .inr (0, 1501)) (c17 := .inr (0, 1501)) (c18 := .inr (1, 1501)) (c19 := .inl (1, [20, 21, 22, 23, 24, 25, 26])) (c20 := .inr (1, 32)) (c21 := .inr (0, 4)) (c22 := .inr (0, 4)) (c23 := .inr (0, 32)) (c24 := .inr (0, 32)) (c25 := .inr (0, 6)) (c26 := .inr (0, 540)) (c27 := .inl (5, [28])) (c28 := .inr (0, 132)) (c29 := .inl (5, [30])) (c30 := .inr (0, 132)) (c31 := .inl (2, [19, 32, 33, 34, 35, 0, 0, 0, 0])) (c32 := .inr (0, 10)) (c33 := .inr (0, 10)) (c34 := .inr (0, 10)) (c35 := .inr (0, 10)) (c36 := .inl (2, [19, 37, 38, 39, 40, 0, 0, 0, 0])) (c37 := .inr (0, 10)) (c38 := .inr (0, 10)) (c39 := .inr (0, 10)) (c40 := .inr (0, 10)) (c41 := .inl (0, [19, 31, 42, 43, 44, 45])) (c42 := .inr (1, 24)) (c43 := .inr (1, 64)) (c44 := .inr (0, 64)) (c45 := .inr (0, 64)) (fun c a b => eR c (by omega) b)) ?_
  show X 125 _ [] [.inl (7, [2, 4, 19, 27, 29, 31, 36, 41, 46, 0, 0, 0, 0, 0, 0]), .inl (6, [3, 0]), .inr (2, 1500), .inl (3, [2, 5, 13, 15, 16, 17, 18, 0, 0, 0, 0, 0]), .inl (1, [6, 7, 8, 9, 10, 11, 12]), .inr (1, 32), .inr (0, 4), .inr (0, 4), .inr (0, 32), .inr (0, 32), .inr (0, 6), .inr (0, 540), .inl (5, [14]), .inr (0, 132), .inr (0, 1501), .inr (0, 1501), .inr (0, 1501), .inr (1, 1501), .inl (1, [20, 21, 22, 23, 24, 25, 26]), .inr (1, 32), .inr (0, 4), .inr (0, 4), .inr (0, 32), .inr (0, 32), .inr (0, 6), .inr (0, 540), .inl (5, [28]), .inr (0, 132), .inl (5, [30]), .inr (0, 132), .inl (2, [19, 32, 33, 34, 35, 0, 0, 0, 0]), .inr (0, 10), .inr (0, 10), .inr (0, 10), .inr (0, 10), .inl (2, [19, 37, 38, 39, 40, 0, 0, 0, 0]), .inr (0, 10), .inr (0, 10), .inr (0, 10), .inr (0, 10), .inl (0, [19, 31, 42, 43, 44, 45]), .inr (1, 24), .inr (1, 64), .inr (0, 64), .inr (0, 64), .inl (4, [47]), .inr (0, 1056)] (zS s l hR4) _ _
  refine hX 20 [129] 125 _ _ _ _ _ _ ?_
  show X 129 _ [vR 48, vR 1] [.inl (7, [2, 4, 19, 27, 29, 31, 36, 41, 46, 0, 0, 0, 0, 0, 0]), .inl (6, [3, 0]), .inr (2, 1500), .inl (3, [2, 5, 13, 15, 16, 17, 18, 0, 0, 0, 0, 0]), .inl (1, [6, 7, 8, 9, 10, 11, 12]), .inr (1, 32), .inr (0, 4), .inr (0, 4), .inr (0, 32), .inr (0, 32), .inr (0, 6), .inr (0, 540), .inl (5, [14]), .inr (0, 132), .inr (0, 1501), .inr (0, 1501), .inr (0, 1501), .inr (1, 1501), .inl (1, [20, 21, 22, 23, 24, 25, 26]), .inr (1, 32), .inr (0, 4), .inr (0, 4), .inr (0, 32), .inr (0, 32), .inr (0, 6), .inr (0, 540), .inl (5, [28]), .inr (0, 132), .inl (5, [30]), .inr (0, 132), .inl (2, [19, 32, 33, 34, 35, 0, 0, 0, 0]), .inr (0, 10), .inr (0, 10), .inr (0, 10), .inr (0, 10), .inl (2, [19, 37, 38, 39, 40, 0, 0, 0, 0]), .inr (0, 10), .inr (0, 10), .inr (0, 10), .inr (0, 10), .inl (0, [19, 31, 42, 43, 44, 45]), .inr (1, 24), .inr (1, 64), .inr (0, 64), .inr (0, 64), .inl (4, [47]), .inr (0, 1056), .inl (4, [0])] (upA (zS s l hR4) 48 (fun _ => 0)) _ _
  rw [upA_id (eR 48 (by decide) (by decide))]
  refine hX 20 [137] 129 _ _ _ _ _ _ ?_
  refine Ok_rt (N_X5b (c1 := .inl (7, [2, 4, 19, 27, 29, 31, 36, 41, 46, 0, 0, 0, 0, 0, 0])) (c2 := .inl (6, [3, 0])) (c3 := .inr (2, 1500)) (c4 := .inl (3, [2, 5, 13, 15, 16, 17, 18, 0, 0, 0, 0, 0])) (c5 := .inl (1, [6, 7, 8, 9, 10, 11, 12])) (c6 := .inr (1, 32)) (c7 := .inr (0, 4)) (c8 := .inr (0, 4)) (c9 := .inr (0, 32)) (c10 := .inr (0, 32)) (c11 := .inr (0, 6)) (c12 := .inr (0, 540)) (c13 := .inl (5, [14])) (c14 := .inr (0, 132)) (c15 := .inr (0, 1501)) (c16 := .inr (0, 1501)) (c17 := .inr (0, 1501)) (c18 := .inr (1, 1501)) (c19 := .inl (1, [20, 21, 22, 23, 24, 25, 26])) (c20 := .inr (1, 32)) (c21 := .inr (0, 4)) (c22 := .inr (0, 4)) (c23 := .inr (0, 32)) (c24 := .inr (0, 32)) (c25 := .inr (0, 6)) (c26 := .inr (0, 540)) (c27 := .inl (5, [28])) (c28 := .inr (0, 132)) (c29 := .inl (5, [30])) (c30 := .inr (0, 132)) (c31 := .inl (2, [19, 32, 33, 34, 35, 0, 0, 0, 0])) (c32 := .inr (0, 10)) (c33 := .inr (0, 10)) (c34 := .inr (0, 10)) (c35 := .inr (0, 10)) (c36 := .inl (2, [19, 37, 38, 39, 40, 0, 0, 0, 0])) (c37 := .inr (0, 10)) (c38 := .inr (0, 10)) (c39 := .inr (0, 10)) (c40 := .inr (0, 10)) (c41 := .inl (0, [19, 31, 42, 43, 44, 45])) (c42 := .inr (1, 24)) (c43 := .inr (1, 64)) (c44 := .inr (0, 64)) (c45 := .inr (0, 64)) (c46 := .inl (4, [47])) (c47 := .inr (0, 1056)) (fun c a b => eR c (by omega) b)) ?_
  show X 137 _ [] [.inl (7, [2, 4, 19, 27, 29, 31, 36, 41, 46, 48, 0, 0, 0, 0, 0]), .inl (6, [3, 0]), .inr (2, 1500), .inl (3, [2, 5, 13, 15, 16, 17, 18, 0, 0, 0, 0, 0]), .inl (1, [6, 7, 8, 9, 10, 11, 12]), .inr (1, 32), .inr (0, 4), .inr (0, 4), .inr (0, 32), .inr (0, 32), .inr (0, 6), .inr (0, 540), .inl (5, [14]), .inr (0, 132), .inr (0, 1501), .inr (0, 1501), .inr (0, 1501), .inr (1, 1501), .inl (1, [20, 21, 22, 23, 24, 25, 26]), .inr (1, 32), .inr (0, 4), .inr (0, 4), .inr (0, 32), .inr (0, 32), .inr (0, 6), .inr (0, 540), .inl (5, [28]), .inr (0, 132), .inl (5, [30]), .inr (0, 132), .inl (2, [19, 32, 33, 34, 35, 0, 0, 0, 0]), .inr (0, 10), .inr (0, 10), .inr (0, 10), .inr (0, 10), .inl (2, [19, 37, 38, 39, 40, 0, 0, 0, 0]), .inr (0, 10), .inr (0, 10), .inr (0, 10), .inr (0, 10), .inl (0, [19, 31, 42, 43, 44, 45]), .inr (1, 24), .inr (1, 64), .inr (0, 64), .inr (0, 64), .inl (4, [47]), .inr (0, 1056), .inl (4, [49]), .inr (0, 264)] (zS s l hR4) _ _
  refine hX 20 [142] 137 _ _ _ _ _ _ ?_
  show X 142 _ [] [.inl (7, [2, 4, 19, 27, 29, 31, 36, 41, 46, 48, 0, 0, 0, 0, 0]), .inl (6, [3, 0]), .inr (2, 1500), .inl (3, [2, 5, 13, 15, 16, 17, 18, 0, 0, 0, 0, 0]), .inl (1, [6, 7, 8, 9, 10, 11, 12]), .inr (1, 32), .inr (0, 4), .inr (0, 4), .inr (0, 32), .inr (0, 32), .inr (0, 6), .inr (0, 540), .inl (5, [14]), .inr (0, 132), .inr (0, 1501), .inr (0, 1501), .inr (0, 1501), .inr (1, 1501), .inl (1, [20, 21, 22, 23, 24, 25, 26]), .inr (1, 32), .inr (0, 4), .inr (0, 4), .inr (0, 32), .inr (0, 32), .inr (0, 6), .inr (0, 540), .inl (5, [28]), .inr (0, 132), .inl (5, [30]), .inr (0, 132), .inl (2, [19, 32, 33, 34, 35, 0, 0, 0, 0]), .inr (0, 10), .inr (0, 10), .inr (0, 10), .inr (0, 10), .inl (2, [19, 37, 38, 39, 40, 0, 0, 0, 0]), .inr (0, 10), .inr (0, 10), .inr (0, 10), .inr (0, 10), .inl (0, [19, 31, 42, 43, 44, 45]), .inr (1, 24), .inr (1, 64), .inr (0, 64), .inr (0, 64), .inl (4, [47]), .inr (0, 1056), .inl (4, [49]), .inr (0, 264)] (up (zS s l hR4) 1 10 (0)) _ _
  refine hX 20 [147] 142 _ _ _ _ _ _ ?_
  show X 147 _ [] [.inl (7, [2, 4, 19, 27, 29, 31, 36, 41, 46, 48, 0, 0, 0, 0, 0]), .inl (6, [3, 0]), .inr (2, 1500), .inl (3, [2, 5, 13, 15, 16, 17, 18, 0, 0, 0, 0, 0]), .inl (1, [6, 7, 8, 9, 10, 11, 12]), .inr (1, 32), .inr (0, 4), .inr (0, 4), .inr (0, 32), .inr (0, 32), .inr (0, 6), .inr (0, 540), .inl (5, [14]), .inr (0, 132), .inr (0, 1501), .inr (0, 1501), .inr (0, 1501), .inr (1, 1501), .inl (1, [20, 21, 22, 23, 24, 25, 26]), .inr (1, 32), .inr (0, 4), .inr (0, 4), .inr (0, 32), .inr (0, 32), .inr (0, 6), .inr (0, 540), .inl (5, [28]), .inr (0, 132), .inl (5, [30]), .inr (0, 132), .inl (2, [19, 32, 33, 34, 35, 0, 0, 0, 0]), .inr (0, 10), .inr (0, 10), .inr (0, 10), .inr (0, 10), .inl (2, [19, 37, 38, 39, 40, 0, 0, 0, 0]), .inr (0, 10), .inr (0, 10), .inr (0, 10), .inr (0, 10), .inl (0, [19, 31, 42, 43, 44, 45]), .inr (1, 24), .inr (1, 64), .inr (0, 64), .inr (0, 64), .inl (4, [47]), .inr (0, 1056), .inl (4, [49]), .inr (0, 264)] (up (up (zS s l hR4) 1 10 (0)) 1 11 (0)) _ _
  refine hX 20 [152] 147 _ _ _ _ _ _ ?_
  show X 152 _ [] [.inl (7, [2, 4, 19, 27, 29, 31, 36, 41, 46, 48, 0, 0, 0, 0, 0]), .inl (6, [3, 0]), .inr (2, 1500), .inl (3, [2, 5, 13, 15, 16, 17, 18, 0, 0, 0, 0, 0]), .inl (1, [6, 7, 8, 9, 10, 11, 12]), .inr (1, 32), .inr (0, 4), .inr (0, 4), .inr (0, 32), .inr (0, 32), .inr (0, 6), .inr (0, 540), .inl (5, [14]), .inr (0, 132), .inr (0, 1501), .inr (0, 1501), .inr (0, 1501), .inr (1, 1501), .inl (1, [20, 21, 22, 23, 24, 25, 26]), .inr (1, 32), .inr (0, 4), .inr (0, 4), .inr (0, 32), .inr (0, 32), .inr (0, 6), .inr (0, 540), .inl (5, [28]), .inr (0, 132), .inl (5, [30]), .inr (0, 132), .inl (2, [19, 32, 33, 34, 35, 0, 0, 0, 0]), .inr (0, 10), .inr (0, 10), .inr (0, 10), .inr (0, 10), .inl (2, [19, 37, 38, 39, 40, 0, 0, 0, 0]), .inr (0, 10), .inr (0, 10), .inr (0, 10), .inr (0, 10), .inl (0, [19, 31, 42, 43, 44, 45]), .inr (1, 24), .inr (1, 64), .inr (0, 64), .inr (0, 64), .inl (4, [47]), .inr (0, 1056), .inl (4, [49]), .inr (0, 264)] (up (up (up (zS s l hR4) 1 10 (0)) 1 11 (0)) 1 12 (0)) _ _
  refine hX 20 [157] 152 _ _ _ _ _ _ ?_
  show X 157 _ [] [.inl (7, [2, 4, 19, 27, 29, 31, 36, 41, 46, 48, 0, 0, 0, 0, 0]), .inl (6, [3, 0]), .inr (2, 1500), .inl (3, [2, 5, 13, 15, 16, 17, 18, 0, 0, 0, 0, 0]), .inl (1, [6, 7, 8, 9, 10, 11, 12]), .inr (1, 32), .inr (0, 4), .inr (0, 4), .inr (0, 32), .inr (0, 32), .inr (0, 6), .inr (0, 540), .inl (5, [14]), .inr (0, 132), .inr (0, 1501), .inr (0, 1501), .inr (0, 1501), .inr (1, 1501), .inl (1, [20, 21, 22, 23, 24, 25, 26]), .inr (1, 32), .inr (0, 4), .inr (0, 4), .inr (0, 32), .inr (0, 32), .inr (0, 6), .inr (0, 540), .inl (5, [28]), .inr (0, 132), .inl (5, [30]), .inr (0, 132), .inl (2, [19, 32, 33, 34, 35, 0, 0, 0, 0]), .inr (0, 10), .inr (0, 10), .inr (0, 10), .inr (0, 10), .inl (2, [19, 37, 38, 39, 40, 0, 0, 0, 0]), .inr (0, 10), .inr (0, 10), .inr (0, 10), .inr (0, 10), .inl (0, [19, 31, 42, 43, 44, 45]), .inr (1, 24), .inr (1, 64), .inr (0, 64), .inr (0, 64), .inl (4, [47]), .inr (0, 1056), .inl (4, [49]), .inr (0, 264)] (up (up (up (up (zS s l hR4) 1 10 (0)) 1 11 (0)) 1 12 (0)) 1 13 (0)) _ _
  refine hX 20 [162] 157 _ _ _ _ _ _ ?_
  show X 162 _ [] [.inl (7, [2, 4, 19, 27, 29, 31, 36, 41, 46, 48, 0, 0, 0, 0, 0]), .inl (6, [3, 0]), .inr (2, 1500), .inl (3, [2, 5, 13, 15, 16, 17, 18, 0, 0, 0, 0, 0]), .inl (1, [6, 7, 8, 9, 10, 11, 12]), .inr (1, 32), .inr (0, 4), .inr (0, 4), .inr (0, 32), .inr (0, 32), .inr (0, 6), .inr (0, 540), .inl (5, [14]), .inr (0, 132), .inr (0, 1501), .inr (0, 1501), .inr (0, 1501), .inr (1, 1501), .inl (1, [20, 21, 22, 23, 24, 25, 26]), .inr (1, 32), .inr (0, 4), .inr (0, 4), .inr (0, 32), .inr (0, 32), .inr (0, 6), .inr (0, 540), .inl (5, [28]), .inr (0, 132), .inl (5, [30]), .inr (0, 132), .inl (2, [19, 32, 33, 34, 35, 0, 0, 0, 0]), .inr (0, 10), .inr (0, 10), .inr (0, 10), .inr (0, 10), .inl (2, [19, 37, 38, 39, 40, 0, 0, 0, 0]), .inr (0, 10), .inr (0, 10), .inr (0, 10), .inr (0, 10), .inl (0, [19, 31, 42, 43, 44, 45]), .inr (1, 24), .inr (1, 64), .inr (0, 64), .inr (0, 64), .inl (4, [47]), .inr (0, 1056), .inl (4, [49]), .inr (0, 264)] (up (up (up (up (up (zS s l hR4) 1 10 (0)) 1 11 (0)) 1 12 (0)) 1 13 (0)) 1 14 (-1)) _ _
  show X 162 _ [] (LC []) (up (up (up (up (up (zS s l hR4) 1 10 (0)) 1 11 (0)) 1 12 (0)) 1 13 (0)) 1 14 (-1)) _ _
  have ez : (up (up (up (up (up (zS s l hR4) 1 10 (0)) 1 11 (0)) 1 12 (0)) 1 13 (0)) 1 14 (-1)) = zS s l hA := by
    rw [z_up _ (by decide), z_up _ (by decide), z_up _ (by decide), z_up _ (by decide), z_up _ (by decide)]
    rfl
  rw [ez]
  refine hX 60 [] 162 _ _ _ _ _ _ ?_
  refine Ok_rt (addText_ok (sid := 0) (N := []) (by decide)) ?_
  show Ok 65 [vR 4] (LC []) (addTx 0 (lenS 0) 0 (zS s l hA)) _
  rw [z_addTx]
  refine Ok_rt (readText_ok (h := zS s l hB) (by rw [z_c _ (by decide)]; exact rtB_h2) (TKI_cg TKI_B (z_c _ (by decide)) (z_c _ (by decide)) (z_c _ (by decide))) (rwB_cg rwB_B (z_c _ (by decide))) (ptB_cg ptB_B (z_c _ (by decide)))) ?_
  show Ok 115 [vR 2, vI 0] (LC []) (rtE (zS s l hB)) _
  rw [z_rtE]
  refine Ok_rt shorten_ok ?_
  refine Ok_rt copyFrom_ok ?_
  refine Ok_rt stCopy_ok ?_
  refine ⟨rfl, rfl, ?_⟩
  rw [z_up _ (by decide), z_copyPH, z_cpA _ (by decide) (by decide)]
  rfl
