/-! ===== the model: the present state, parts, rows of a part ===== -/
/-- m numbers of cell a laid into cell b, from place i on -/
def byF (a b : Nat) : Nat → Int → HP → HP
  | 0, _, h => h
  | m + 1, i, h => byF a b m (i + 1) (up h b i.toNat (h a i.toNat))
theorem byF_cell {a b c : Nat} (n : c ≠ b) : ∀ (m : Nat) (i : Int) (h : HP), byF a b m i h c = h c
  | 0, _, _ => rfl
  | m + 1, i, h => by rw [byF, byF_cell n m, up_cell n]
theorem byF_at {a b : Nat} (n : a ≠ b) : ∀ (m : Nat) (i : Int) (h : HP) (q : Nat), 0 ≤ i → byF a b m i h b q = if i ≤ (q : Int) ∧ (q : Int) < i + m then h a q else h b q
  | 0, i, h, q, _ => by rw [byF, if_neg (by omega)]
  | m + 1, i, h, q, hi => by
    rw [byF, byF_at n m (i + 1) _ q (by omega), up_cell n]
    by_cases z : q = i.toNat
    · subst z
      rw [if_neg (by omega), if_pos ⟨by omega, by omega⟩, up_same]
    · rw [up_ne z]
      by_cases y : i ≤ (q : Int) ∧ (q : Int) < i + (m + 1 : Nat)
      · rw [if_pos y, if_pos ⟨by omega, by omega⟩]
      · rw [if_neg y, if_neg (by omega)]
section MBY
variable {M : List CT} {h : HP} {i j k m s p c x w : Int} {st : Nat → Int}
theorem m_byNow : Ok 226 [vR 50] (LL M) h (rt none (LL M) (byF 57 69 132 0 h)) := by
  refine ok_body B_X9_byNow rfl (fun X hX => ?_)
  have loop : ∀ (m : Nat) (q : Int) (h1 : HP), 0 ≤ q → 132 - q = (m : Int) → byF 57 69 m q h1 = byF 57 69 132 0 h → X 2 [vR 50, vI q] [] (LL M) h1 0 0 := by
    intro m
    induction m with
    | zero =>
      intro q h1 hq hm he
      refine hX 8 [] 2 _ _ _ _ _ _ ?_
      refine And.intro (fun c6 => ?_) (fun c6 => absurd c6 (by omega))
      exact rt_mk rfl he
    | succ m ih =>
      intro q h1 hq hm he
      refine hX 20 [2] 2 _ _ _ _ _ _ ?_
      refine And.intro (fun c6 => absurd c6 (by omega)) (fun c6 => ?_)
      refine And.intro ⟨by omega, by omega⟩ ?_
      refine And.intro ⟨by omega, by omega⟩ ?_
      refine And.intro ⟨by omega, by omega⟩ ?_
      exact ih (q + 1) _ (by omega) (by omega) he
  refine hX 5 [2] 0 _ _ _ _ _ _ ?_
  exact loop 132 0 h (by omega) (by omega) rfl
/-- behind byNow the row 'by' is the present state -/
theorem byNow_rd (j : Int) : rd (byF 57 69 132 0 h 69) 132 j = rd (h 57) 132 j := by
  unfold rd
  split
  · next z => rw [byF_at (by decide) _ _ _ _ (by omega), if_pos ⟨by omega, by omega⟩]
  · rfl
theorem StC_by {f g cs : Nat → Int} (e : ∀ j, rd f 132 j = rd g 132 j) (H : StC g cs) : StC f cs := by
  unfold StC at *
  simp only [e]
  exact H
theorem m_of (hM : Cpl h) (hC : CI h) (hp : isPc h p) (hk : isPa h p k) (hw : 0 ≤ w ∧ w ≤ 7) : Ok 223 [vR 50, vI p, vI k, vI w] (LL M) h (rt (some (vI (rd (h 55) 480 (8 * (10 * p + k) + w)))) (LL M) h) := by
  have b3 := hC.1.2.2.2.1
  have bp := (hC.1.2.2.2.2.2 p hp.1 hp.2).1
  have p0 : 0 ≤ p ∧ p < 6 := ⟨hp.1, by have := hp.2; omega⟩
  have k0 : 0 ≤ k ∧ k < 10 := ⟨hk.1, by have := hk.2; omega⟩
  have e : rd (h 55) 480 (8 * (10 * p + k) + w) = h 55 (8 * (10 * p + k) + w).toNat := rd_in (by omega) (by omega)
  clear b3 bp
  refine ok_body B_X9_of rfl (fun X hX => ?_)
  refine hX 18 [] 0 _ _ _ _ _ _ ?_
  refine And.intro ⟨by omega, by omega⟩ ?_
  refine And.intro ⟨by omega, by omega⟩ ?_
  refine And.intro ⟨by omega, by omega⟩ ?_
  refine And.intro ⟨by omega, by omega⟩ ?_
  refine And.intro ⟨by omega, by omega⟩ ?_
  exact rt_mk (congrArg (fun z => some (vI z)) e.symm) rfl
theorem m_by (hm : 0 ≤ m ∧ m < 8) (hs : 0 ≤ s ∧ s < 6) (hB : StC (h 69) st) : Ok 227 [vR 50, vI m, vI s] (LL M) h (rt (some (vI (cVal st m s))) (LL M) h) := by
  have e := hB.2.1 m s hm.1 hm.2 hs.1 hs.2
  rw [rd_in (by omega) (by omega)] at e
  refine ok_body B_X9_by rfl (fun X hX => ?_)
  refine hX 16 [] 0 _ _ _ _ _ _ ?_
  refine And.intro ⟨by omega, by omega⟩ ?_
  refine And.intro ⟨by omega, by omega⟩ ?_
  refine And.intro ⟨by omega, by omega⟩ ?_
  refine And.intro ⟨by omega, by omega⟩ ?_
  exact rt_mk (congrArg (fun z => some (vI z)) e) rfl
theorem near_two {r n : Int} (hr : 0 ≤ r) (hn : 1 ≤ n) : (2 * r + n).tdiv (2 * n) * n = nearF r n 0 := by
  rw [Int.tdiv_eq_ediv_of_nonneg (by omega)]
  have e1 := Int.mul_ediv_add_emod r n
  have e2 := Int.emod_nonneg r (show n ≠ 0 by omega)
  have e3 := Int.emod_lt_of_pos r (show 0 < n by omega)
  have key : (2 * r + n) / (2 * n) = r / n + (if r % n < n - r % n then 0 else 1) := by
    have e4 : 2 * r + n = (2 * (r % n) + n) + r / n * (2 * n) := by
      have : r / n * (2 * n) = 2 * (n * (r / n)) := by rw [Int.mul_comm (r / n), Int.mul_assoc 2 n]
      omega
    rw [e4, Int.add_mul_ediv_right _ _ (by omega)]
    split
    · rw [Int.ediv_eq_zero_of_lt (by omega) (by omega)]; omega
    · have : (2 * (r % n) + n) / (2 * n) = 1 := by
        have e5 : 2 * (r % n) + n = (2 * (r % n) - n) + 1 * (2 * n) := by omega
        rw [e5, Int.add_mul_ediv_right _ _ (by omega), Int.ediv_eq_zero_of_lt (by omega) (by omega)]; rfl
      omega
  rw [key]
  unfold nearF
  rw [Int.sub_zero]
  have e6 : r / n * n = n * (r / n) := Int.mul_comm _ _
  have e7 : (r / n + 1) * n = n * (r / n) + n := by rw [Int.add_mul]; omega
  by_cases z : r % n < n - r % n
  · rw [if_pos z, if_pos (by omega), Int.add_zero]; omega
  · rw [if_neg z, if_neg (by omega)]; omega
end MBY
