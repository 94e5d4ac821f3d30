/-! ===== reads behind writes; remainders; Shelf; State as a whole ===== -/
theorem rdA_wrA_oth {h : HP} {a b len lb : Nat} {i j v : Int} (n : b ≠ a) : rdA (wrA h a len i v) b lb j = rdA h b lb j := by
  unfold rdA wrA
  split
  · split
    · rw [up_cell n]
    · rfl
  · rfl
theorem rdA_wrA {h : HP} {a len : Nat} {i j v : Int} : rdA (wrA h a len i v) a len j = if 0 ≤ i ∧ i < (len : Int) ∧ j = i then v else rdA h a len j := by
  unfold rdA wrA
  by_cases z : 0 ≤ i ∧ i < (len : Int)
  · rw [if_pos z]
    by_cases w : j = i
    · subst w; rw [if_pos z, if_pos (⟨z.1, z.2, rfl⟩ : 0 ≤ j ∧ j < (len : Int) ∧ j = j), up_same]
    · have e : ¬ (0 ≤ i ∧ i < (len : Int) ∧ j = i) := fun q => w q.2.2
      rw [if_neg e]
      by_cases y : 0 ≤ j ∧ j < (len : Int)
      · rw [if_pos y, if_pos y, up_ne (by omega)]
      · rw [if_neg y, if_neg y]
  · have e : ¬ (0 ≤ i ∧ i < (len : Int) ∧ j = i) := fun q => z ⟨q.1, q.2.1⟩
    rw [if_neg z, if_neg e]
theorem rdA_up_oth {h : HP} {a b lb q : Nat} {j v : Int} (n : b ≠ a) : rdA (up h a q v) b lb j = rdA h b lb j := by unfold rdA; rw [up_cell n]
theorem wrA_cell {h : HP} {a b len : Nat} {i v : Int} (n : b ≠ a) : wrA h a len i v b = h b := by unfold wrA; split; exact up_cell n; rfl
theorem rdA_of {h h' : HP} {a : Nat} (e : h' a = h a) (len : Nat) (i : Int) : rdA h' a len i = rdA h a len i := by unfold rdA; rw [e]
theorem cpA_cell {h : HP} {a la b lb c : Nat} {i j n : Int} (z : c ≠ b) : cpA h a la i b lb j n c = h c := upA_cell z
theorem rdA_cpA {h : HP} {a la b lb : Nat} {i j n q : Int} : rdA (cpA h a la i b lb j n) b lb q = if j ≤ q ∧ q < j + n ∧ 0 ≤ q ∧ q < (lb : Int) then rdA h a la (i + (q - j)) else rdA h b lb q := by
  unfold cpA
  by_cases z : 0 ≤ q ∧ q < (lb : Int)
  · rw [rdA_in z.1 z.2, rdA_in z.1 z.2, upA_same]
    by_cases w : j ≤ q ∧ q < j + n
    · rw [if_pos ⟨by omega, by omega, by omega⟩, if_pos ⟨w.1, w.2, z.1, z.2⟩, show ((q.toNat : Int)) = q by omega]
    · rw [if_neg (by omega), if_neg (by omega)]
  · rw [if_neg (by omega)]; unfold rdA; rw [if_neg z, if_neg z]
theorem flF_cell {a b len : Nat} {w : Int} (n : b ≠ a) : ∀ (m : Nat) (i : Int) (h : HP), flF a len w m i h b = h b
  | 0, _, _ => rfl
  | m + 1, i, h => by rw [flF, flF_cell n m, wrA_cell n]
theorem rdA_flF {a len : Nat} {w : Int} : ∀ (m : Nat) (i j : Int) (h : HP), 0 ≤ i → rdA (flF a len w m i h) a len j = if i ≤ j ∧ j < i + m ∧ j < (len : Int) then w else rdA h a len j
  | 0, i, j, h, _ => by rw [flF, if_neg (by omega)]
  | m + 1, i, j, h, hi => by
    rw [flF, rdA_flF m (i + 1) j _ (by omega), rdA_wrA]
    by_cases z : i ≤ j ∧ j < i + (m + 1 : Nat) ∧ j < (len : Int)
    · rw [if_pos z]
      by_cases w : j = i
      · rw [if_neg (by omega), if_pos ⟨hi, by omega, w⟩]
      · rw [if_pos ⟨by omega, by omega, by omega⟩]
    · rw [if_neg z, if_neg (by omega)]
      by_cases w : 0 ≤ i ∧ i < (len : Int) ∧ j = i
      · exact absurd ⟨by omega, by omega, by omega⟩ z
      · rw [if_neg w]
theorem cpF_cell {a la b lb c : Nat} (n : c ≠ b) : ∀ (m : Nat) (i : Int) (h : HP), cpF a la b lb m i h c = h c
  | 0, _, _ => rfl
  | m + 1, i, h => by rw [cpF, cpF_cell n m, wrA_cell n]
theorem rdA_cpF {a la b lb : Nat} (n : a ≠ b) : ∀ (m : Nat) (i j : Int) (h : HP), 0 ≤ i → rdA (cpF a la b lb m i h) b lb j = if i ≤ j ∧ j < i + m ∧ j < (lb : Int) then rdA h a la j else rdA h b lb j
  | 0, i, j, h, _ => by rw [cpF, if_neg (by omega)]
  | m + 1, i, j, h, hi => by
    rw [cpF, rdA_cpF n m (i + 1) j _ (by omega), rdA_wrA, rdA_wrA_oth n]
    by_cases z : i ≤ j ∧ j < i + (m + 1 : Nat) ∧ j < (lb : Int)
    · rw [if_pos z]
      by_cases w : j = i
      · subst w; rw [if_neg (by omega), if_pos ⟨hi, by omega, rfl⟩]
      · rw [if_pos ⟨by omega, by omega, by omega⟩]
    · rw [if_neg z, if_neg (by omega)]
      by_cases w : 0 ≤ i ∧ i < (lb : Int) ∧ j = i
      · exact absurd ⟨by omega, by omega, by omega⟩ z
      · rw [if_neg w]
theorem ixor_neg {x y : Int} (hx : inR x) (hy : inR y) (hy0 : 0 ≤ y) : ixorI x y < 0 ↔ x < 0 := by
  have e1 : (Int32.ofInt x ^^^ Int32.ofInt y).toBitVec = (Int32.ofInt x).toBitVec ^^^ (Int32.ofInt y).toBitVec := rfl
  have e2 : ixorI x y = ((Int32.ofInt x).toBitVec ^^^ (Int32.ofInt y).toBitVec).toInt := rfl
  have ex : (Int32.ofInt x).toBitVec.toInt = x := i_to hx
  have ey : (Int32.ofInt y).toBitVec.toInt = y := i_to hy
  have h1 := BitVec.msb_eq_toInt (x := (Int32.ofInt x).toBitVec ^^^ (Int32.ofInt y).toBitVec)
  have h2 := BitVec.msb_eq_toInt (x := (Int32.ofInt x).toBitVec)
  have h3 := BitVec.msb_eq_toInt (x := (Int32.ofInt y).toBitVec)
  rw [BitVec.msb_xor, h2, h3, ex, ey, ← e2] at h1
  have h4 : decide (y < 0) = false := by simp; omega
  rw [h4, Bool.xor_false] at h1
  constructor
  · intro z; by_cases w : x < 0
    · exact w
    · simp [w, z] at h1
  · intro w; by_cases z : ixorI x y < 0
    · exact z
    · simp [w, z] at h1
theorem tmod_pos {x y : Int} (h : 0 ≤ x) : x.tmod y = x % y := Int.tmod_eq_emod_of_nonneg h
def nearF (w m r : Int) : Int := if w - (w - (w - r) % m) < (w - (w - r) % m + m) - w then w - (w - r) % m else w - (w - r) % m + m
section SHELF
variable {N : List CT} {Λ : List CT} {h : HP} {o : Nat} {i j k x y w m r : Int}
theorem floorMod_ok (hx : inR x) (hy : 0 < y) (hy2 : y ≤ 2147483647) : Ok 271 [vI x, vI y] Λ h (rt (some (vI (x % y))) Λ h) := by
  have hm0 := Int.emod_nonneg x (show y ≠ 0 by omega)
  have hm1 := Int.emod_lt_of_pos x hy
  have key : x.tmod y = x % y ∨ (x < 0 ∧ x.tmod y + y = x % y ∧ x.tmod y ≠ 0) := by
    rw [Int.tmod_eq_emod]
    split
    · left; omega
    · next z =>
      right
      refine ⟨by omega, by omega, ?_⟩
      have : ¬ y ∣ x := fun q => z (Or.inr q)
      have : x % y ≠ 0 := fun q => this (Int.dvd_of_emod_eq_zero q)
      omega
  have kz : x < 0 → x.tmod y = 0 → x % y = 0 := by
    intro a b
    rw [Int.tmod_eq_emod] at b
    split at b
    · omega
    · omega
  have kx : 0 ≤ x → x.tmod y = x % y := fun a => tmod_pos a
  have key2 : x < 0 → x.tmod y ≠ 0 → x.tmod y + y = x % y := by
    intro a b
    rcases key with z | z
    · rw [Int.tmod_eq_emod] at b z
      split at b
      · next q =>
        rcases q with q | q
        · omega
        · have := Int.emod_eq_zero_of_dvd q; omega
      · next q => rw [if_neg q] at z; omega
    · exact z.2.1
  have hs1 : ixorI x y < 0 → x < 0 := (ixor_neg hx (show inR y from ⟨by omega, by omega⟩) (by omega)).mp
  have hs2 : x < 0 → ixorI x y < 0 := (ixor_neg hx (show inR y from ⟨by omega, by omega⟩) (by omega)).mpr
  refine ok_body B_J9_floorMod_7cf53 rfl (fun X hX => ?_)
  refine hX 21 [] 0 _ _ _ _ _ _ ?_
  refine And.intro (by omega) ?_
  refine And.intro (fun c7 => ?_) (fun c7 => ?_)
  · exact rt_mk (by rw [kx (by omega)]) rfl
  · refine And.intro (fun c11 => ?_) (fun c11 => ?_)
    · exact rt_mk (by rw [c11, kz (by omega) c11]) rfl
    · refine And.intro ⟨by omega, by omega⟩ ?_
      exact rt_mk (congrArg (fun z => some (vI z)) (by omega)) rfl

theorem nearest_ok (hw : 0 ≤ w ∧ w ≤ 1000000) (hm : 1 ≤ m ∧ m ≤ 1000000) (hr : 0 ≤ r ∧ r ≤ 1000000) : Ok 39 [vI w, vI m, vI r] Λ h (rt (some (vI (nearF w m r))) Λ h) := by
  have hm0 := Int.emod_nonneg (w - r) (show m ≠ 0 by omega)
  have hm1 := Int.emod_lt_of_pos (w - r) (show 0 < m by omega)
  refine ok_body B_X3_nearest rfl (fun X hX => ?_)
  refine hX 33 [] 0 _ _ _ _ _ _ ?_
  refine And.intro (fun c2 => ?_) (fun c2 => absurd c2 (by omega))
  refine And.intro ⟨by omega, by omega⟩ ?_
  refine Ok_rt (floorMod_ok ⟨by omega, by omega⟩ (by omega) (by omega)) ?_
  refine And.intro ⟨by omega, by omega⟩ ?_
  refine And.intro ⟨by omega, by omega⟩ ?_
  refine And.intro ⟨by omega, by omega⟩ ?_
  refine And.intro ⟨by omega, by omega⟩ ?_
  refine And.intro (fun c29 => ?_) (fun c29 => ?_)
  · exact rt_mk (by first | rw [nearF, if_pos c29] | rw [nearF, if_neg (by omega)]) rfl
  · exact rt_mk (by first | rw [nearF, if_pos c29] | rw [nearF, if_neg (by omega)]) rfl

def isSh (b : Nat) (n : Nat) : Prop := (b = 46 ∧ n = 1056) ∨ (b = 48 ∧ n = 264)
theorem keep_ok {b n : Nat} (hb : isSh b n) (hi : 0 ≤ i ∧ i ≤ 100) : Ok 97 [vR b, vI i, vR 27] (LC N) h (rt none (LC N) (cpA h 28 132 0 (b + 1) n (i * 132) 132)) := by
  rcases hb with ⟨rfl, rfl⟩ | ⟨rfl, rfl⟩
  all_goals
    refine ok_body B_X5_keep rfl (fun X hX => ?_)
    refine hX 16 [] 0 _ _ _ _ _ _ ?_
    refine And.intro ⟨by omega, by omega⟩ ?_
    refine Ok_rt (copy_ok rfl rfl (by decide) (by decide) (by decide) (by omega) (by omega) (by omega) (by omega) (by omega)) ?_
    exact rt_mk rfl rfl

theorem bring_ok {b n : Nat} (hb : isSh b n) (hi : 0 ≤ i ∧ i ≤ 100) : Ok 98 [vR b, vI i, vR 27] (LC N) h (rt none (LC N) (cpA h (b + 1) n (i * 132) 28 132 0 132)) := by
  rcases hb with ⟨rfl, rfl⟩ | ⟨rfl, rfl⟩
  all_goals
    refine ok_body B_X5_bring rfl (fun X hX => ?_)
    refine hX 16 [] 0 _ _ _ _ _ _ ?_
    refine And.intro ⟨by omega, by omega⟩ ?_
    refine Ok_rt (copy_ok rfl rfl (by decide) (by decide) (by decide) (by omega) (by omega) (by omega) (by omega) (by omega)) ?_
    exact rt_mk rfl rfl

theorem bring2_ok {b n : Nat} (hb : isSh b n) (hi : 0 ≤ i ∧ i ≤ 100) : Ok 98 [vR b, vI i, vR 29] (LC N) h (rt none (LC N) (cpA h (b + 1) n (i * 132) 30 132 0 132)) := by
  rcases hb with ⟨rfl, rfl⟩ | ⟨rfl, rfl⟩
  all_goals
    refine ok_body B_X5_bring rfl (fun X hX => ?_)
    refine hX 16 [] 0 _ _ _ _ _ _ ?_
    refine And.intro ⟨by omega, by omega⟩ ?_
    refine Ok_rt (copy_ok rfl rfl (by decide) (by decide) (by decide) (by omega) (by omega) (by omega) (by omega) (by omega)) ?_
    exact rt_mk rfl rfl

theorem stCopy_ok : Ok 100 [vR 27, vR 13] (LC N) h (rt none (LC N) (cpA h 14 132 0 28 132 0 132)) := by
  refine ok_body B_X6_copyFrom rfl (fun X hX => ?_)
  refine hX 11 [] 0 _ _ _ _ _ _ ?_
  refine Ok_rt (copyAll_ok rfl rfl (by decide) (by decide) (by decide)) ?_
  exact rt_mk rfl rfl

theorem stEmpty_ok : Ok 101 [vR 13] (LC N) h (rt none (LC N) (flF 14 132 0 132 0 h)) := by
  refine ok_body B_X6_empty rfl (fun X hX => ?_)
  have loop : ∀ (m : Nat) (q : Int) (h1 : HP), 0 ≤ q → 132 - q = (m : Int) → flF 14 132 0 m q h1 = flF 14 132 0 132 0 h → X 2 [vR 13, vI q] [] (LC N) h1 0 0 := by
    intro m
    induction m with
    | zero =>
      intro q h1 hq hm he
      refine hX 20 [] 2 _ _ _ _ _ _ ?_
      refine And.intro (fun c8 => ?_) (fun c8 => absurd c8 (by omega))
      exact rt_mk rfl he
    | succ m ih =>
      intro q h1 hq hm he
      refine hX 20 [2] 2 _ _ _ _ _ _ ?_
      refine And.intro (fun c8 => absurd c8 (by omega)) (fun c8 => ?_)
      refine Ok_rt (put_ok (len := 132) rfl (by decide)) ?_
      refine And.intro ⟨by omega, by omega⟩ ?_
      exact ih (q + 1) _ (by omega) (by omega) he
  refine hX 20 [2] 0 _ _ _ _ _ _ ?_
  exact loop 132 0 h (by omega) (by omega) rfl

/-- the lots behind a place move down by one: m of them, from k on -/
def dropS : Nat → Int → HP → HP
  | 0, _, h => h
  | m + 1, k, h => dropS m (k + 1) (wrA (wrA h 28 132 (4 + k) (rdA h 28 132 (4 + (k + 1)))) 28 132 (14 + k) (rdA (wrA h 28 132 (4 + k) (rdA h 28 132 (4 + (k + 1)))) 28 132 (14 + (k + 1))))
theorem dropLot_ok {n : Int} (hn : rdA h (27 + 1) 132 3 = n) (hn2 : n ≤ 10) (hi : 0 ≤ i ∧ i < n) : Ok 112 [vR 27, vI i] (LC N) h (rt none (LC N) (wrA (dropS (n - 1 - i).toNat i h) 28 132 3 (n - 1))) := by
  refine ok_body B_X6_dropLot rfl (fun X hX => ?_)
  have loop : ∀ (m : Nat) (q : Int) (h1 : HP), 0 ≤ q → n - 1 - q = (m : Int) → dropS m q h1 = dropS (n - 1 - i).toNat i h → X 9 [vR 27, vI i, vI (n - 1), vI q] [] (LC N) h1 0 0 := by
    intro m
    induction m with
    | zero =>
      intro q h1 hq hm he
      refine hX 42 [] 9 _ _ _ _ _ _ ?_
      refine And.intro (fun c11 => ?_) (fun c11 => absurd c11 (by omega))
      refine Ok_rt (setCell_ok (Or.inr (Or.inl rfl))) ?_
      exact rt_mk rfl (by rw [← he]; rfl)
    | succ m ih =>
      intro q h1 hq hm he
      refine hX 42 [9] 9 _ _ _ _ _ _ ?_
      refine And.intro (fun c11 => absurd c11 (by omega)) (fun c11 => ?_)
      refine And.intro ⟨by omega, by omega⟩ ?_
      refine And.intro ⟨by omega, by omega⟩ ?_
      refine Ok_rt (lotColor_ok (Or.inr (Or.inl rfl)) (by omega)) ?_
      refine Ok_rt (setCell_ok (Or.inr (Or.inl rfl))) ?_
      refine And.intro ⟨by omega, by omega⟩ ?_
      refine And.intro ⟨by omega, by omega⟩ ?_
      refine Ok_rt (lotMeters_ok (Or.inr (Or.inl rfl)) (by omega)) ?_
      refine Ok_rt (setCell_ok (Or.inr (Or.inl rfl))) ?_
      refine And.intro ⟨by omega, by omega⟩ ?_
      exact ih (q + 1) _ (by omega) (by omega) he
  refine hX 42 [9] 0 _ _ _ _ _ _ ?_
  refine Ok_rt (lots_ok (Or.inr (Or.inl rfl))) ?_
  refine And.intro (by rw [hn]; exact ⟨by omega, by omega⟩) ?_
  rw [hn]
  exact loop _ i h (by omega) (by omega) rfl

end SHELF
