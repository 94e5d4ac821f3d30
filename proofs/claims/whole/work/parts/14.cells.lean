/-! ===== cells by place, read and written only where they are; the smaller library methods ===== -/
def rdA (h : HP) (a len : Nat) (i : Int) : Int := if 0 ≤ i ∧ i < (len : Int) then h a i.toNat else 0
def wrA (h : HP) (a len : Nat) (i v : Int) : HP := if 0 ≤ i ∧ i < (len : Int) then up h a i.toNat v else h
theorem rdA_in {h : HP} {a len : Nat} {i : Int} (h0 : 0 ≤ i) (h1 : i < (len : Int)) : rdA h a len i = h a i.toNat := if_pos ⟨h0, h1⟩
theorem rdA_out {h : HP} {a len : Nat} {i : Int} (h0 : i < 0 ∨ (len : Int) ≤ i) : rdA h a len i = 0 := if_neg (by omega)
theorem wrA_in {h : HP} {a len : Nat} {i v : Int} (h0 : 0 ≤ i) (h1 : i < (len : Int)) : wrA h a len i v = up h a i.toNat v := if_pos ⟨h0, h1⟩
theorem wrA_out {h : HP} {a len : Nat} {i v : Int} (h0 : i < 0 ∨ (len : Int) ≤ i) : wrA h a len i v = h := if_neg (by omega)
theorem up_same {h : HP} {a j : Nat} {v : Int} : up h a j v a j = v := by simp [up]
theorem up_cell {h : HP} {a b j : Nat} {v : Int} (n : b ≠ a) : up h a j v b = h b := by funext q; simp [up, n]
theorem up_ne {h : HP} {a j k : Nat} {v : Int} (n : k ≠ j) : up h a j v a k = h a k := by simp [up, n]
theorem up_at {h : HP} {a j k : Nat} {v : Int} : up h a j v a k = if k = j then v else h a k := by simp [up]
theorem upA_cell {h : HP} {a b : Nat} {f : Nat → Int} (n : b ≠ a) : upA h a f b = h b := by simp [upA, n]
theorem upA_same {h : HP} {a : Nat} {f : Nat → Int} : upA h a f a = f := by simp [upA]
section ST
variable {OkV : Nat → List PV → List CT → HP → Post → Prop} {M : MC} {post : Post} {K : XT} {tg : List Nat} {pc k n a len : Nat} {L st : List PV} {Λ : List CT} {h : HP} {i x : Int}
theorem st_len {kd : Nat} (hc : cell Λ a = some (.inr (kd, len))) (hl : len ≤ 2147483647) (hk : K (pc + 1) L (vI (len : Int) :: st) Λ h k n) : stp OkV M post K .arraylength tg pc L (vR a :: st) Λ h k n := by
  simp only [stp, hc, Nat.ble_eq_true_of_le hl]
  exact hk
theorem st_iald (hc : cell Λ a = some (.inr (0, len))) (h0 : 0 ≤ i) (h1 : i < (len : Int)) (hk : K (pc + 1) L (vI (h a i.toNat) :: st) Λ h k n) : stp OkV M post K .iaload tg pc L (vI i :: vR a :: st) Λ h k n := by
  simp only [stp, hc]
  exact ⟨⟨h0, h1⟩, hk⟩
theorem st_lald (hc : cell Λ a = some (.inr (1, len))) (h0 : 0 ≤ i) (h1 : i < (len : Int)) (hk : K (pc + 1) L (vL (h a i.toNat) :: st) Λ h k n) : stp OkV M post K .laload tg pc L (vI i :: vR a :: st) Λ h k n := by
  simp only [stp, hc]
  exact ⟨⟨h0, h1⟩, hk⟩
theorem st_iast (hc : cell Λ a = some (.inr (0, len))) (h0 : 0 ≤ i) (h1 : i < (len : Int)) (hk : K (pc + 1) L st Λ (up h a i.toNat x) k n) : stp OkV M post K .iastore tg pc L (vI x :: vI i :: vR a :: st) Λ h k n := by
  simp only [stp, hc]
  exact ⟨⟨h0, h1⟩, hk⟩
theorem st_last (hc : cell Λ a = some (.inr (1, len))) (h0 : 0 ≤ i) (h1 : i < (len : Int)) (hk : K (pc + 1) L st Λ (up h a i.toNat x) k n) : stp OkV M post K .lastore tg pc L (vL x :: vI i :: vR a :: st) Λ h k n := by
  simp only [stp, hc]
  exact ⟨⟨h0, h1⟩, hk⟩
end ST
def nxK (OkV : Nat → List PV → List CT → HP → Post → Prop) (M : MC) (X : XT) (post : Post) (f : Nat) (cuts : List Nat) : XT := fun pc' => match memb pc' cuts with
  | true => X pc'
  | false => run OkV M X post f cuts pc'
section RN
variable {OkV : Nat → List PV → List CT → HP → Post → Prop} {M : MC} {X : XT} {post : Post} {cuts : List Nat} {tg : List Nat} {f pc k n a len : Nat} {L st : List PV} {Λ : List CT} {h : HP} {i x : Int}
theorem rn_len {kd : Nat} (hi : lk M.1 pc = some (.arraylength, tg)) (hc : cell Λ a = some (.inr (kd, len))) (hl : len ≤ 2147483647) (hk : nxK OkV M X post f cuts (pc + 1) L (vI (len : Int) :: st) Λ h k n) : run OkV M X post (f + 1) cuts pc L (vR a :: st) Λ h k n := by
  unfold run; rw [hi]; exact st_len hc hl hk
theorem rn_iald (hi : lk M.1 pc = some (.iaload, tg)) (hc : cell Λ a = some (.inr (0, len))) (h0 : 0 ≤ i) (h1 : i < (len : Int)) (hk : nxK OkV M X post f cuts (pc + 1) L (vI (h a i.toNat) :: st) Λ h k n) : run OkV M X post (f + 1) cuts pc L (vI i :: vR a :: st) Λ h k n := by
  unfold run; rw [hi]; exact st_iald hc h0 h1 hk
theorem rn_lald (hi : lk M.1 pc = some (.laload, tg)) (hc : cell Λ a = some (.inr (1, len))) (h0 : 0 ≤ i) (h1 : i < (len : Int)) (hk : nxK OkV M X post f cuts (pc + 1) L (vL (h a i.toNat) :: st) Λ h k n) : run OkV M X post (f + 1) cuts pc L (vI i :: vR a :: st) Λ h k n := by
  unfold run; rw [hi]; exact st_lald hc h0 h1 hk
theorem rn_iast (hi : lk M.1 pc = some (.iastore, tg)) (hc : cell Λ a = some (.inr (0, len))) (h0 : 0 ≤ i) (h1 : i < (len : Int)) (hk : nxK OkV M X post f cuts (pc + 1) L st Λ (up h a i.toNat x) k n) : run OkV M X post (f + 1) cuts pc L (vI x :: vI i :: vR a :: st) Λ h k n := by
  unfold run; rw [hi]; exact st_iast hc h0 h1 hk
theorem rn_last (hi : lk M.1 pc = some (.lastore, tg)) (hc : cell Λ a = some (.inr (1, len))) (h0 : 0 ≤ i) (h1 : i < (len : Int)) (hk : nxK OkV M X post f cuts (pc + 1) L st Λ (up h a i.toNat x) k n) : run OkV M X post (f + 1) cuts pc L (vL x :: vI i :: vR a :: st) Λ h k n := by
  unfold run; rw [hi]; exact st_last hc h0 h1 hk
end RN
theorem rt_mk {v v' : Option PV} {Λ : List CT} {h h' : HP} (e1 : v' = v) (e2 : h' = h) : rt v Λ h (.inl v') Λ h' := by rw [e1, e2]; exact ⟨rfl, rfl, rfl⟩
section CELLS
variable {Λ : List CT} {h : HP} {a b len la lb : Nat} {i j x n : Int}
theorem at_ok (hc : cell Λ a = some (.inr (0, len))) (hl : len ≤ 2147483647) : Ok 0 [vR a, vI i] Λ h (rt (some (vI (rdA h a len i))) Λ h) := by
  refine ok_body B_X0_at rfl (fun X hX => ?_)
  refine hX 20 [6] 0 _ _ _ _ _ _ ?_
  refine And.intro (fun c => ?_) (fun c => ?_)
  · exact rt_mk (by rw [rdA_out (Or.inl c)]) rfl
  · refine hX 20 [12] 6 _ _ _ _ _ _ ?_
    refine rn_len (tg := []) rfl hc hl ?_
    refine And.intro (fun d => ?_) (fun d => ?_)
    · exact rt_mk (by rw [rdA_out (Or.inr d)]) rfl
    · refine hX 20 [] 12 _ _ _ _ _ _ ?_
      refine rn_iald (tg := []) rfl hc c d ?_
      exact rt_mk (by rw [rdA_in c d]) rfl
theorem atL_ok (hc : cell Λ a = some (.inr (1, len))) (hl : len ≤ 2147483647) : Ok 1 [vR a, vI i] Λ h (rt (some (vL (rdA h a len i))) Λ h) := by
  refine ok_body B_X0_at_ rfl (fun X hX => ?_)
  refine hX 20 [6] 0 _ _ _ _ _ _ ?_
  refine And.intro (fun c => ?_) (fun c => ?_)
  · exact rt_mk (by rw [rdA_out (Or.inl c)]; rfl) rfl
  · refine hX 20 [12] 6 _ _ _ _ _ _ ?_
    refine rn_len (tg := []) rfl hc hl ?_
    refine And.intro (fun d => ?_) (fun d => ?_)
    · exact rt_mk (by rw [rdA_out (Or.inr d)]; rfl) rfl
    · refine hX 20 [] 12 _ _ _ _ _ _ ?_
      refine rn_lald (tg := []) rfl hc c d ?_
      exact rt_mk (by rw [rdA_in c d]) rfl
theorem put_ok (hc : cell Λ a = some (.inr (0, len))) (hl : len ≤ 2147483647) : Ok 2 [vR a, vI i, vI x] Λ h (rt none Λ (wrA h a len i x)) := by
  refine ok_body B_X0_put rfl (fun X hX => ?_)
  refine hX 20 [6] 0 _ _ _ _ _ _ ?_
  refine And.intro (fun c => ?_) (fun c => ?_)
  · exact rt_mk rfl (by rw [wrA_out (Or.inl c)])
  · refine hX 20 [13] 6 _ _ _ _ _ _ ?_
    refine rn_len (tg := []) rfl hc hl ?_
    refine And.intro (fun d => ?_) (fun d => ?_)
    · exact rt_mk rfl (by rw [wrA_out (Or.inr d)])
    · refine hX 20 [] 13 _ _ _ _ _ _ ?_
      refine rn_iast (tg := []) rfl hc c d ?_
      exact rt_mk rfl (by rw [wrA_in c d])
theorem putL_ok (hc : cell Λ a = some (.inr (1, len))) (hl : len ≤ 2147483647) : Ok 3 [vR a, vI i, vL x] Λ h (rt none Λ (wrA h a len i x)) := by
  refine ok_body B_X0_put_ rfl (fun X hX => ?_)
  refine hX 20 [6] 0 _ _ _ _ _ _ ?_
  refine And.intro (fun c => ?_) (fun c => ?_)
  · exact rt_mk rfl (by rw [wrA_out (Or.inl c)])
  · refine hX 20 [13] 6 _ _ _ _ _ _ ?_
    refine rn_len (tg := []) rfl hc hl ?_
    refine And.intro (fun d => ?_) (fun d => ?_)
    · exact rt_mk rfl (by rw [wrA_out (Or.inr d)])
    · refine hX 20 [] 13 _ _ _ _ _ _ ?_
      refine rn_last (tg := []) rfl hc c d ?_
      exact rt_mk rfl (by rw [wrA_in c d])
/-- n cells of a from i on, laid into b from j on -/
def cpA (h : HP) (a la : Nat) (i : Int) (b lb : Nat) (j n : Int) : HP := upA h b (fun q => if j ≤ (q : Int) ∧ (q : Int) < j + n ∧ q < lb then rdA h a la (i + ((q : Int) - j)) else h b q)
theorem copy_ok (ha : cell Λ a = some (.inr (0, la))) (hb : cell Λ b = some (.inr (0, lb))) (hla : la ≤ 2147483647) (hlb : lb ≤ 2147483647) (hab : a ≠ b) (hi : 0 ≤ i) (hj : 0 ≤ j) (hn : 0 ≤ n) (hi2 : i + n ≤ 2000000000) (hj2 : j + n ≤ 2000000000) :
    Ok 4 [vR a, vI i, vR b, vI j, vI n] Λ h (rt none Λ (cpA h a la i b lb j n)) := by
  refine ok_body B_X0_copy rfl (fun X hX => ?_)
  have loop : ∀ (m : Nat) (k : Int), 0 ≤ k → n - k = (m : Int) → X 3 [vR a, vI i, vR b, vI j, vI n, vI k] [] Λ (cpA h a la i b lb j k) 0 0 := by
    intro m
    induction m with
    | zero =>
      intro k hk hm
      refine hX 20 [] 3 _ _ _ _ _ _ ?_
      refine And.intro (fun c => ?_) (fun c => absurd c (by omega))
      exact rt_mk rfl (by rw [show k = n by omega])
    | succ m ih =>
      intro k hk hm
      refine hX 20 [3] 3 _ _ _ _ _ _ ?_
      refine And.intro (fun c => absurd c (by omega)) (fun c => ?_)
      refine And.intro ⟨by omega, by omega⟩ ?_
      refine And.intro ⟨by omega, by omega⟩ ?_
      refine Ok_rt (at_ok ha hla) ?_
      refine Ok_rt (put_ok hb hlb) ?_
      refine And.intro ⟨by omega, by omega⟩ ?_
      have e : wrA (cpA h a la i b lb j k) b lb (j + k) (rdA (cpA h a la i b lb j k) a la (i + k)) = cpA h a la i b lb j (k + 1) := by
        have e1 : rdA (cpA h a la i b lb j k) a la (i + k) = rdA h a la (i + k) := by unfold rdA cpA; rw [upA_cell hab]
        rw [e1]
        unfold wrA
        split
        · next z =>
          funext p q
          unfold cpA up upA
          by_cases hp : p = b
          · subst hp
            simp only [if_true]
            by_cases hq : q = (j + k).toNat
            · rw [if_pos hq, if_pos ⟨by omega, by omega, by omega⟩, show (q : Int) - j = k by omega]
            · rw [if_neg hq]
              by_cases hz : j ≤ (q : Int) ∧ (q : Int) < j + k ∧ q < lb
              · rw [if_pos hz, if_pos ⟨by omega, by omega, by omega⟩]
              · rw [if_neg hz, if_neg (by omega)]
          · simp only [hp, if_false]
        · next z =>
          unfold cpA
          congr 1
          funext q
          by_cases hz : j ≤ (q : Int) ∧ (q : Int) < j + k ∧ q < lb
          · rw [if_pos hz, if_pos ⟨by omega, by omega, by omega⟩]
          · rw [if_neg hz, if_neg (by omega)]
      rw [e]
      exact ih (k + 1) (by omega) (by omega)
  refine hX 2 [3] 0 _ _ _ _ _ _ ?_
  have e0 : cpA h a la i b lb j 0 = h := by
    funext p q
    unfold cpA upA
    by_cases hp : p = b
    · subst hp; simp only [if_true]; rw [if_neg (by omega)]
    · simp only [hp, if_false]
  have := loop n.toNat 0 (by omega) (by omega)
  rw [e0] at this
  exact this
theorem copyAll_ok (ha : cell Λ a = some (.inr (0, la))) (hb : cell Λ b = some (.inr (0, lb))) (hla : la ≤ 1000000000) (hlb : lb ≤ 1000000000) (hab : a ≠ b) :
    Ok 5 [vR a, vR b] Λ h (rt none Λ (cpA h a la 0 b lb 0 lb)) := by
  refine ok_body B_X0_copyAll rfl (fun X hX => ?_)
  refine hX 20 [5] 0 _ _ _ _ _ _ ?_
  refine hX 20 [] 5 _ _ _ _ _ _ ?_
  refine rn_len (tg := []) rfl hb (by omega) ?_
  refine Ok_rt (copy_ok ha hb (by omega) (by omega) hab (by omega) (by omega) (by omega) (by omega) (by omega)) ?_
  exact rt_mk rfl rfl
theorem abs_ok (hi : -2147483648 < i) (hi2 : i ≤ 2147483647) : Ok 272 [vI i] Λ h (rt (some (vI (if 0 ≤ i then i else -i))) Λ h) := by
  refine ok_body B_J9_abs_0f7a4 rfl (fun X hX => ?_)
  refine hX 20 [] 0 _ _ _ _ _ _ ?_
  refine And.intro (fun c => ?_) (fun c => ?_)
  · exact rt_mk (by rw [if_pos c]) rfl
  · refine And.intro ⟨by omega, by omega⟩ ?_
    exact rt_mk (by rw [if_neg (by omega)]) rfl
theorem max_ok : Ok 273 [vI i, vI j] Λ h (rt (some (vI (max i j))) Λ h) := by
  refine ok_body B_J9_max_7cf53 rfl (fun X hX => ?_)
  refine hX 20 [] 0 _ _ _ _ _ _ ?_
  refine And.intro (fun c => ?_) (fun c => ?_)
  · exact rt_mk (by rw [Int.max_eq_right (by omega)]) rfl
  · exact rt_mk (by rw [Int.max_eq_left (by omega)]) rfl
theorem min_ok : Ok 274 [vI i, vI j] Λ h (rt (some (vI (min i j))) Λ h) := by
  refine ok_body B_J9_min_7cf53 rfl (fun X hX => ?_)
  refine hX 20 [] 0 _ _ _ _ _ _ ?_
  refine And.intro (fun c => ?_) (fun c => ?_)
  · exact rt_mk (by rw [Int.min_eq_right (by omega)]) rfl
  · exact rt_mk (by rw [Int.min_eq_left (by omega)]) rfl
end CELLS
