/-! ===== Text: one contract a method ===== -/
theorem ii_and (a : Int) (n : Nat) (hn : n < 2147483648) : iandI a (n : Int) = (((a % 4294967296).toNat &&& n : Nat) : Int) := by
  have e1 : (Int32.ofInt a &&& Int32.ofInt (n : Int)).toBitVec = BitVec.ofInt 32 a &&& BitVec.ofInt 32 (n : Int) := rfl
  have e2 : (BitVec.ofInt 32 a &&& BitVec.ofInt 32 (n : Int)).toNat = (a % 4294967296).toNat &&& n := by
    rw [BitVec.toNat_and, BitVec.toNat_ofInt, BitVec.toNat_ofInt]
    congr 1
    omega
  have e3 : (a % 4294967296).toNat &&& n ≤ n := Nat.and_le_right
  unfold iandI
  show (Int32.ofInt a &&& Int32.ofInt (n : Int)).toBitVec.toInt = _
  rw [e1, BitVec.toInt_eq_toNat_of_lt (by rw [e2]; omega), e2]
theorem iand255m (a : Int) : iandI a 255 = a % 256 := by
  have e := ii_and a 255 (by omega)
  have e2 : (a % 4294967296).toNat &&& 255 = (a % 4294967296).toNat % 256 := Nat.and_two_pow_sub_one_eq_mod _ 8
  rw [show ((255 : Nat) : Int) = 255 from rfl] at e
  rw [e, e2]
  omega
def txB (h : HP) (i : Int) : Int := if 0 ≤ i ∧ i < h 2 1 ∧ i < 1500 then iandI (h 3 i.toNat) 255 else 0
theorem txB_rng (h : HP) (i : Int) : 0 ≤ txB h i ∧ txB h i ≤ 255 := by
  unfold txB
  split
  · rw [iand255m]; omega
  · omega
def allI (f : Int → Bool) : Nat → Int → Bool
  | 0, _ => true
  | m + 1, i => f i && allI f m (i + 1)
def dgL (f : Int → Int) : Nat → Int → Int → Int
  | 0, _, a => a
  | m + 1, i, a => dgL f m (i + 1) (a * 10 + f i - 48)
def pkL (f : Int → Int) : Nat → Int → Int → Int
  | 0, _, a => a
  | m + 1, i, a => if 97 ≤ f i ∧ f i ≤ 122 then pkL f m (i + 1) (lorI (lshlI a 8) (f i)) else 0
def addBH (h : HP) (x : Int) : HP := if 0 ≤ h 2 1 ∧ h 2 1 < 1500 then up (up h 3 (h 2 1).toNat (i2bI x)) 2 1 (h 2 1 + 1) else h
def addTx (sid : Nat) : Nat → Int → HP → HP
  | 0, _, h => h
  | m + 1, i, h => addTx sid m (i + 1) (addBH h (chrS sid i))
theorem i2b_rng (a : Int) : -128 ≤ i2bI a ∧ i2bI a ≤ 127 := by
  have h1 := ((Int32.ofInt a).toInt8).le_toInt
  have h2 := ((Int32.ofInt a).toInt8).toInt_lt
  unfold i2bI
  rw [Int8.toInt_toInt32]
  omega
theorem lenS_sm : ∀ sid, sid < nStr → lenS sid ≤ 140 := by decide +kernel
section TEXT
variable {N : List CT} {h : HP} {sid : Nat} {i j k x : Int}

theorem byteAt_ok : Ok 114 [vR 2, vI i] (LC N) h (rt (some (vI (txB h i))) (LC N) h) := by
  refine ok_body B_X7_byteAt rfl (fun X hX => ?_)
  refine hX 25 [] 0 _ _ _ _ _ _ ?_
  refine And.intro (fun c1 => ?_) (fun c1 => ?_)
  · exact rt_mk (by first | rw [txB, if_neg (by omega)] | rw [txB, if_pos ⟨by omega, by omega, by omega⟩]) rfl
  · refine And.intro (fun c9 => ?_) (fun c9 => ?_)
    · exact rt_mk (by first | rw [txB, if_neg (by omega)] | rw [txB, if_pos ⟨by omega, by omega, by omega⟩]) rfl
    · refine And.intro (fun c18 => ?_) (fun c18 => ?_)
      · exact rt_mk (by first | rw [txB, if_neg (by omega)] | rw [txB, if_pos ⟨by omega, by omega, by omega⟩]) rfl
      · refine And.intro ⟨by omega, by omega⟩ ?_
        exact rt_mk (by first | rw [txB, if_neg (by omega)] | rw [txB, if_pos ⟨by omega, by omega, by omega⟩]) rfl

theorem shorten_ok : Ok 115 [vR 2, vI i] (LC N) h (rt none (LC N) (up h 2 1 i)) := by
  refine ok_body B_X7_shorten rfl (fun X hX => ?_)
  refine hX 9 [] 0 _ _ _ _ _ _ ?_
  exact rt_mk rfl rfl

theorem addByte_ok : Ok 116 [vR 2, vI i] (LC N) h (rt none (LC N) (addBH h i)) := by
  refine ok_body B_X7_addByte rfl (fun X hX => ?_)
  refine hX 28 [] 0 _ _ _ _ _ _ ?_
  refine And.intro (fun c4 => ?_) (fun c4 => ?_)
  · exact rt_mk rfl (by first | rw [addBH, if_neg (by omega)] | (rw [addBH, if_pos ⟨by omega, by omega⟩]; rfl))
  · refine And.intro (fun c16 => ?_) (fun c16 => ?_)
    · exact rt_mk rfl (by first | rw [addBH, if_neg (by omega)] | (rw [addBH, if_pos ⟨by omega, by omega⟩]; rfl))
    · refine And.intro ⟨⟨by omega, by omega⟩, i2b_rng _⟩ ?_
      refine And.intro (show inR (up h 3 (h 2 1).toNat (i2bI i) 2 1 + 1) from (by rw [up_cell (by decide)]; exact ⟨by omega, by omega⟩)) ?_
      exact rt_mk rfl (by first | rw [addBH, if_neg (by omega)] | (rw [addBH, if_pos ⟨by omega, by omega⟩]; rfl))

theorem addFour_ok : Ok 117 [vR 2, vI i] (LC N) h (rt none (LC N) (addBH (addBH (addBH (addBH h (iushrI i 24)) (iushrI i 16)) (iushrI i 8)) i)) := by
  refine ok_body B_X7_addFour rfl (fun X hX => ?_)
  refine hX 24 [] 0 _ _ _ _ _ _ ?_
  refine Ok_rt (addByte_ok) ?_
  refine Ok_rt (addByte_ok) ?_
  refine Ok_rt (addByte_ok) ?_
  refine Ok_rt (addByte_ok) ?_
  exact rt_mk rfl rfl

theorem isLetter_ok : Ok 119 [vR 2, vI i] (LC N) h (rt (some (vI (if 97 ≤ txB h i ∧ txB h i ≤ 122 then 1 else 0))) (LC N) h) := by
  refine ok_body B_X7_isLetter rfl (fun X hX => ?_)
  refine hX 19 [] 0 _ _ _ _ _ _ ?_
  refine Ok_rt (byteAt_ok) ?_
  refine And.intro (fun c9 => ?_) (fun c9 => ?_)
  · exact And.intro ⟨by decide, by decide⟩ (rt_mk (by first | rw [if_neg (by omega)] | rw [if_pos (by omega)]) rfl)
  · refine And.intro (fun c15 => ?_) (fun c15 => ?_)
    · exact And.intro ⟨by decide, by decide⟩ (rt_mk (by first | rw [if_neg (by omega)] | rw [if_pos (by omega)]) rfl)
    · exact And.intro ⟨by decide, by decide⟩ (rt_mk (by first | rw [if_neg (by omega)] | rw [if_pos (by omega)]) rfl)

theorem isDigit_ok : Ok 120 [vR 2, vI i] (LC N) h (rt (some (vI (if 48 ≤ txB h i ∧ txB h i ≤ 57 then 1 else 0))) (LC N) h) := by
  refine ok_body B_X7_isDigit rfl (fun X hX => ?_)
  refine hX 19 [] 0 _ _ _ _ _ _ ?_
  refine Ok_rt (byteAt_ok) ?_
  refine And.intro (fun c9 => ?_) (fun c9 => ?_)
  · exact And.intro ⟨by decide, by decide⟩ (rt_mk (by first | rw [if_neg (by omega)] | rw [if_pos (by omega)]) rfl)
  · refine And.intro (fun c15 => ?_) (fun c15 => ?_)
    · exact And.intro ⟨by decide, by decide⟩ (rt_mk (by first | rw [if_neg (by omega)] | rw [if_pos (by omega)]) rfl)
    · exact And.intro ⟨by decide, by decide⟩ (rt_mk (by first | rw [if_neg (by omega)] | rw [if_pos (by omega)]) rfl)

theorem isBlank_ok : Ok 121 [vR 2, vI i] (LC N) h (rt (some (vI (if txB h i = 10 ∨ txB h i = 32 then 1 else 0))) (LC N) h) := by
  refine ok_body B_X7_isBlank rfl (fun X hX => ?_)
  refine hX 19 [] 0 _ _ _ _ _ _ ?_
  refine Ok_rt (byteAt_ok) ?_
  refine And.intro (fun c9 => ?_) (fun c9 => ?_)
  · exact And.intro ⟨by decide, by decide⟩ (rt_mk (by first | rw [if_neg (by omega)] | rw [if_pos (by omega)]) rfl)
  · refine And.intro (fun c15 => ?_) (fun c15 => ?_)
    · exact And.intro ⟨by decide, by decide⟩ (rt_mk (by first | rw [if_neg (by omega)] | rw [if_pos (by omega)]) rfl)
    · exact And.intro ⟨by decide, by decide⟩ (rt_mk (by first | rw [if_neg (by omega)] | rw [if_pos (by omega)]) rfl)

theorem addText_ok (hs : sid < nStr) : Ok 118 [vR 2, vR (1000 + sid)] (LC N) h (rt none (LC N) (addTx sid (lenS sid) 0 h)) := by
  have hl := lenS_le sid hs
  refine ok_body B_X7_addText rfl (fun X hX => ?_)
  have loop : ∀ (m : Nat) (q : Int) (h1 : HP), 0 ≤ q → (lenS sid : Int) - q = (m : Int) → addTx sid m q h1 = addTx sid (lenS sid) 0 h → X 2 [vR 2, vR (1000 + sid), vI q] [] (LC N) h1 0 0 := by
    intro m
    induction m with
    | zero =>
      intro q h1 hq hm he
      refine hX 19 [] 2 _ _ _ _ _ _ ?_
      refine And.intro ⟨by omega, by omega⟩ (Ok_rt (strlen_ok hs) ?_)
      refine And.intro (fun c7 => ?_) (fun c7 => absurd c7 (by omega))
      exact rt_mk rfl he
    | succ m ih =>
      intro q h1 hq hm he
      refine hX 19 [2] 2 _ _ _ _ _ _ ?_
      refine And.intro ⟨by omega, by omega⟩ (Ok_rt (strlen_ok hs) ?_)
      refine And.intro (fun c7 => absurd c7 (by omega)) (fun c7 => ?_)
      refine And.intro ⟨by omega, by omega⟩ (Ok_rt (charAt_ok hs (by omega) (by omega)) ?_)
      refine Ok_rt (addByte_ok) ?_
      refine And.intro ⟨by omega, by omega⟩ ?_
      exact ih (q + 1) _ (by omega) (by omega) he
  refine hX 19 [2] 0 _ _ _ _ _ _ ?_
  exact loop _ 0 h (by omega) (by omega) rfl

theorem holdsWord_ok (hs : sid < nStr) (hi : -10000 ≤ i ∧ i ≤ 10000)(hj : -10000 ≤ j ∧ j ≤ 10000) : Ok 122 [vR 2, vI i, vI j, vR (1000 + sid)] (LC N) h (rt (some (vI (if j - i = (lenS sid : Int) ∧ allI (fun q => txB h (i + q) == chrS sid q) (lenS sid) 0 = true then 1 else 0))) (LC N) h) := by
  have hl := lenS_le sid hs
  have hl2 := lenS_sm sid hs
  refine ok_body B_X7_holdsWord rfl (fun X hX => ?_)
  refine hX 34 [15] 0 _ _ _ _ _ _ ?_
  refine And.intro ⟨by omega, by omega⟩ ?_
  refine And.intro ⟨by omega, by omega⟩ (Ok_rt (strlen_ok hs) ?_)
  refine And.intro (fun c7 => ?_) (fun c7 => ?_)
  · have loop : ∀ (m : Nat) (q : Int), 0 ≤ q → (lenS sid : Int) - q = (m : Int) → allI (fun q => txB h (i + q) == chrS sid q) m q = allI (fun q => txB h (i + q) == chrS sid q) (lenS sid) 0 → X 15 [vR 2, vI i, vI j, vR (1000 + sid), vI q] [] (LC N) h 0 0 := by
      intro m
      induction m with
      | zero =>
        intro q hq hm he
        refine hX 34 [] 15 _ _ _ _ _ _ ?_
        refine And.intro ⟨by omega, by omega⟩ (Ok_rt (strlen_ok hs) ?_)
        refine And.intro (fun c21 => ?_) (fun c21 => absurd c21 (by omega))
        exact And.intro ⟨by decide, by decide⟩ (rt_mk (by rw [if_pos ⟨c7, by rw [← he]; rfl⟩]) rfl)
      | succ m ih =>
        intro q hq hm he
        refine hX 34 [15] 15 _ _ _ _ _ _ ?_
        refine And.intro ⟨by omega, by omega⟩ (Ok_rt (strlen_ok hs) ?_)
        refine And.intro (fun c21 => absurd c21 (by omega)) (fun c21 => ?_)
        refine And.intro ⟨by omega, by omega⟩ ?_
        refine Ok_rt (byteAt_ok) ?_
        refine And.intro ⟨by omega, by omega⟩ (Ok_rt (charAt_ok hs (by omega) (by omega)) ?_)
        refine And.intro (fun c38 => ?_) (fun c38 => ?_)
        · refine And.intro ⟨by omega, by omega⟩ ?_
          exact ih (q + 1) (by omega) (by omega) (by rw [← he, allI, beq_iff_eq.mpr c38, Bool.true_and])
        · exact And.intro ⟨by decide, by decide⟩ (rt_mk (by rw [if_neg]; rintro ⟨-, z⟩; rw [← he, allI] at z; exact c38 (beq_iff_eq.mp (Bool.and_eq_true_iff.mp z).1)) rfl)
    exact loop _ 0 (by omega) (by omega) rfl
  · exact And.intro ⟨by decide, by decide⟩ (rt_mk (by rw [if_neg (fun z => c7 z.1)]) rfl)

theorem digitsValue_ok (hi : 0 ≤ i ∧ i ≤ 10000) (hj : i ≤ j ∧ j ≤ i + 4) (hd : ∀ q, i ≤ q → q < j → 48 ≤ txB h q ∧ txB h q ≤ 57) : Ok 123 [vR 2, vI i, vI j] (LC N) h (rt (some (vI (dgL (txB h) (j - i).toNat i 0))) (LC N) h) := by
  refine ok_body B_X7_digitsValue rfl (fun X hX => ?_)
  have loop : ∀ (m : Nat) (q a : Int), i ≤ q → j - q = (m : Int) → (q - i) * 1000000 ≤ 4000000 → 0 ≤ a → (q = i → a = 0) → (q = i + 1 → a ≤ 300) → (q = i + 2 → a ≤ 4000) → (q = i + 3 → a ≤ 50000) → (q = i + 4 → a ≤ 600000) → dgL (txB h) m q a = dgL (txB h) (j - i).toNat i 0 → X 5 [vR 2, vI i, vI j, vI a, vI q] [] (LC N) h 0 0 := by
    intro m
    induction m with
    | zero =>
      intro q a hq hm h4 ha a0 a1 a2 a3 a4 he
      refine hX 26 [] 5 _ _ _ _ _ _ ?_
      refine And.intro (fun c8 => ?_) (fun c8 => absurd c8 (by omega))
      exact rt_mk (by rw [← he]; rfl) rfl
    | succ m ih =>
      intro q a hq hm h4 ha a0 a1 a2 a3 a4 he
      have hr := txB_rng h q
      have hdq := hd q hq (by omega)
      refine hX 26 [5] 5 _ _ _ _ _ _ ?_
      refine And.intro (fun c8 => absurd c8 (by omega)) (fun c8 => ?_)
      refine And.intro ⟨by omega, by omega⟩ ?_
      refine Ok_rt (byteAt_ok) ?_
      refine And.intro ⟨by omega, by omega⟩ ?_
      refine And.intro ⟨by omega, by omega⟩ ?_
      refine And.intro ⟨by omega, by omega⟩ ?_
      exact ih (q + 1) _ (by omega) (by omega) (by omega) (by have := hd q hq (by omega); omega) (by omega) (by omega) (by omega) (by omega) (by omega) he
  refine hX 26 [5] 0 _ _ _ _ _ _ ?_
  exact loop (j - i).toNat i 0 (by omega) (by omega) (by omega) (by omega) (fun _ => rfl) (by omega) (by omega) (by omega) (by omega) rfl

theorem packedName_ok (hi : 0 ≤ i ∧ i ≤ 10000) (hj : 0 ≤ j ∧ j ≤ 10000) : Ok 124 [vR 2, vI i, vI j] (LC N) h (rt (some (vL (if 8 < j - i then 0 else pkL (txB h) (j - i).toNat i 0))) (LC N) h) := by
  refine ok_body B_X7_packedName rfl (fun X hX => ?_)
  refine hX 38 [15] 0 _ _ _ _ _ _ ?_
  refine And.intro ⟨by omega, by omega⟩ ?_
  refine And.intro (fun c5 => ?_) (fun c5 => ?_)
  · have loop : ∀ (m : Nat) (q a : Int), i ≤ q → (j - q = (m : Int) ∨ (m = 0 ∧ j ≤ q)) → pkL (txB h) m q a = pkL (txB h) (j - i).toNat i 0 → X 15 [vR 2, vI i, vI j, vL a, vU, vI q] [] (LC N) h 0 0 := by
      intro m
      induction m with
      | zero =>
        intro q a hq hm he
        refine hX 38 [] 15 _ _ _ _ _ _ ?_
        refine And.intro (fun c18 => ?_) (fun c18 => absurd c18 (by omega))
        exact rt_mk (by rw [if_neg (by omega), ← he]; rfl) rfl
      | succ m ih =>
        intro q a hq hm he
        refine hX 38 [15] 15 _ _ _ _ _ _ ?_
        refine And.intro (fun c18 => absurd c18 (by omega)) (fun c18 => ?_)
        refine Ok_rt (isLetter_ok) ?_
        refine And.intro (fun c27 => ?_) (fun c27 => ?_)
        · refine Ok_rt (byteAt_ok) ?_
          refine And.intro ⟨by omega, by omega⟩ ?_
          exact ih (q + 1) _ (by omega) (by omega) (by rw [← he, pkL, if_pos (by by_cases z : 97 ≤ txB h q ∧ txB h q ≤ 122; exact z; rw [if_neg z] at c27; exact absurd rfl c27)])
        · exact rt_mk (by rw [if_neg (by omega), ← he, pkL, if_neg (by intro z; rw [if_pos z] at c27; exact absurd c27 (by decide))]; rfl) rfl
    exact loop (j - i).toNat i 0 (by omega) (by omega) rfl
  · exact rt_mk (by rw [if_pos (by omega)]; rfl) rfl

end TEXT
