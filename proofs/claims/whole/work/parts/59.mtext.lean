/-! ===== the model: append, truncate; bytes and names ===== -/
theorem ishr_div {a : Int} (h : inR a) (s : Nat) (e1 : (Int32.ofInt a >>> (Int32.ofInt (s : Int) &&& 31)).toBitVec = (BitVec.ofInt 32 a).sshiftRight s) : ishrI a s = a / ((2 ^ s : Nat) : Int) := by
  have e2 : ishrI a s = ((BitVec.ofInt 32 a).sshiftRight s).toInt := by unfold ishrI; rw [← e1]; rfl
  have e3 : (BitVec.ofInt 32 a).toInt = a := by rw [BitVec.toInt_ofInt]; exact bm32 h
  rw [e2, BitVec.toInt_sshiftRight, e3, Int.shiftRight_eq_div_pow]
theorem iushr_div {a : Int} (s : Nat) (hs : 8 ≤ s) (hs2 : s < 32) (e1 : ((Int32.ofInt a).toUInt32 >>> ((Int32.ofInt (s : Int)).toUInt32 &&& Int32.toUInt32 31)).toInt32.toBitVec = BitVec.ofInt 32 a >>> s) : iushrI a s = ((a % 4294967296).toNat / 2 ^ s : Nat) := by
  have e2 : iushrI a s = (BitVec.ofInt 32 a >>> s).toInt := by unfold iushrI; rw [← e1]; rfl
  have e3 : (BitVec.ofInt 32 a >>> s).toNat = (a % 4294967296).toNat / 2 ^ s := by
    rw [BitVec.toNat_ushiftRight, BitVec.toNat_ofInt, Nat.shiftRight_eq_div_pow]
    rfl
  have b : (a % 4294967296).toNat / 2 ^ s < 2147483648 := by
    have p : 2 ^ 8 ≤ 2 ^ s := Nat.pow_le_pow_right (by decide) hs
    have q : (a % 4294967296).toNat < 4294967296 := by omega
    refine Nat.lt_of_le_of_lt (Nat.div_le_div_left p (by decide)) ?_
    have : (2 : Nat) ^ 8 = 256 := rfl
    omega
  rw [e2, BitVec.toInt_eq_toNat_of_lt (by rw [e3]; omega), e3]
theorem i2b_mod {a : Int} (h : inR a) : i2bI a % 256 = a % 256 := by
  unfold i2bI
  rw [Int8.toInt_toInt32, Int32.toInt_toInt8, i_to h]
  exact Int.bmod_emod
theorem byte_24 {a : Int} (h : inR a) : iandI (i2bI (iushrI a 24)) 255 = iandI (ishrI a 24) 255 := by
  have e := iushr_div (a := a) 24 (by decide) (by decide) rfl
  have f := ishr_div h 24 rfl
  rw [iand255m, iand255m]
  rw [show ((24 : Nat) : Int) = 24 from rfl] at e f
  rw [i2b_mod (by rw [e]; omega), e, f]
  omega
theorem byte_16 {a : Int} (h : inR a) : iandI (i2bI (iushrI a 16)) 255 = iandI (ishrI a 16) 255 := by
  have e := iushr_div (a := a) 16 (by decide) (by decide) rfl
  have f := ishr_div h 16 rfl
  rw [iand255m, iand255m]
  rw [show ((16 : Nat) : Int) = 16 from rfl] at e f
  rw [i2b_mod (by rw [e]; omega), e, f]
  omega
theorem byte_8 {a : Int} (h : inR a) : iandI (i2bI (iushrI a 8)) 255 = iandI (ishrI a 8) 255 := by
  have e := iushr_div (a := a) 8 (by decide) (by decide) rfl
  have f := ishr_div h 8 rfl
  rw [iand255m, iand255m]
  rw [show ((8 : Nat) : Int) = 8 from rfl] at e f
  rw [i2b_mod (by rw [e]; omega), e, f]
  omega
theorem byte_0 {a : Int} (h : inR a) : iandI (i2bI a) 255 = iandI (ishrI a 0) 255 := by
  rw [iand255m, iand255m, i2b_mod h, ishr0 h]
/-- bytes added one after another -/
def apB (h : HP) : List Int → HP
  | [] => h
  | x :: l => apB (addBH h x) l
theorem apB_spec : ∀ (l : List Int) (h : HP) (n : Nat), h 2 1 = (n : Int) → n + l.length ≤ 1500 → (∀ c, c ≠ 2 → c ≠ 3 → apB h l c = h c) ∧ (∀ q, q ≠ 1 → apB h l 2 q = h 2 q) ∧ apB h l 2 1 = ((n + l.length : Nat) : Int) ∧ (∀ i, i < n → apB h l 3 i = h 3 i) ∧ ∀ k, k < l.length → apB h l 3 (n + k) = i2bI (l.getD k 0)
  | [], h, n, hn, _ => ⟨fun _ _ _ => rfl, fun _ _ => rfl, hn, fun _ _ => rfl, fun k hk => absurd hk (Nat.not_lt_zero _)⟩
  | x :: l, h, n, hn, hl => by
    have hl2 : n + 1 + l.length ≤ 1500 := by rw [List.length_cons] at hl; omega
    have ea : addBH h x = up (up h 3 n (i2bI x)) 2 1 ((n : Int) + 1) := by
      unfold addBH
      rw [if_pos (by omega), hn, Int.toNat_natCast]
    obtain ⟨a, b, c, d, e⟩ := apB_spec l (addBH h x) (n + 1) (by rw [ea, up_same]; rfl) hl2
    refine ⟨fun q q1 q2 => ?_, fun q q1 => ?_, ?_, fun i hi => ?_, fun k hk => ?_⟩
    · show apB (addBH h x) l q = _
      rw [a q q1 q2, ea, up_cell q1, up_cell q2]
    · show apB (addBH h x) l 2 q = _
      rw [b q q1, ea, up_ne q1, up_cell (by decide)]
    · show apB (addBH h x) l 2 1 = _
      rw [c, List.length_cons]
      omega
    · show apB (addBH h x) l 3 i = _
      rw [d i (by omega), ea, up_cell (by decide), up_ne (by omega)]
    · show apB (addBH h x) l 3 (n + k) = _
      cases k with
      | zero => rw [Nat.add_zero, d n (by omega), ea, up_cell (by decide), up_same]; rfl
      | succ k =>
        rw [show n + (k + 1) = n + 1 + k by omega, e k (by rw [List.length_cons] at hk; omega)]
        rfl
def bs4 (a : Int) : List Int := [iushrI a 24, iushrI a 16, iushrI a 8, a]
def bs20 (a b c d e : Int) : List Int := bs4 a ++ bs4 b ++ bs4 c ++ bs4 d ++ bs4 e
theorem add_20 (h : HP) (a b c d e : Int) : addFH (addFH (addFH (addFH (addFH h a) b) c) d) e = apB h (bs20 a b c d e) := rfl
/-- the word of a byte -/
def wd5 (a b c d e : Int) (k : Nat) : Int := if k < 4 then a else if k < 8 then b else if k < 12 then c else if k < 16 then d else e
theorem bs20_at {a b c d e : Int} (ha : inR a) (hb : inR b) (hc : inR c) (hd : inR d) (he : inR e) : ∀ k, k < 20 → iandI (i2bI ((bs20 a b c d e).getD k 0)) 255 = iandI (ishrI (wd5 a b c d e k) (24 - 8 * ((k : Int).tmod 4))) 255
  | 0, _ => byte_24 ha
  | 1, _ => byte_16 ha
  | 2, _ => byte_8 ha
  | 3, _ => byte_0 ha
  | 4, _ => byte_24 hb
  | 5, _ => byte_16 hb
  | 6, _ => byte_8 hb
  | 7, _ => byte_0 hb
  | 8, _ => byte_24 hc
  | 9, _ => byte_16 hc
  | 10, _ => byte_8 hc
  | 11, _ => byte_0 hc
  | 12, _ => byte_24 hd
  | 13, _ => byte_16 hd
  | 14, _ => byte_8 hd
  | 15, _ => byte_0 hd
  | 16, _ => byte_24 he
  | 17, _ => byte_16 he
  | 18, _ => byte_8 he
  | 19, _ => byte_0 he
  | k + 20, h => absurd h (by omega)
section MTEXT
variable {M : List CT} {h : HP} {i j a b c d e : Int} {n : Nat}
theorem m_append (hn : h 50 17 = (n : Int)) (hl : n ≤ 1480) : Ok 178 [vR 50, vI a, vI b, vI c, vI d, vI e] (LL M) h (fun o Λ' h' => o = .inl (some (vI ((n : Int) + 20))) ∧ Λ' = LL M ∧ (∀ x, x ≠ 50 → x ≠ 61 → h' x = h x) ∧ (∀ q, q ≠ 0 → q ≠ 17 → h' 50 q = h 50 q) ∧ h' 50 0 = 0 ∧ h' 50 17 = (n : Int) + 20 ∧
    (∀ q, q < n → h' 61 q = h 61 q) ∧ ∀ k, k < 20 → h' 61 (n + k) = iandI (ishrI (wd5 a b c d e k) (24 - 8 * ((k : Int).tmod 4))) 255) := by
  refine ok_body B_X9_append rfl (fun X hX => ?_)
  have loop : ∀ (f k : Nat) (h1 : HP) (j7 : PV), k + f = 20 → (∀ x, x ≠ 50 → x ≠ 61 → h1 x = h x) → (∀ q, q ≠ 0 → h1 50 q = h 50 q) → h1 50 0 = 0 → (∀ q, q < n → h1 61 q = h 61 q) → (∀ q, q < k → h1 61 (n + q) = iandI (ishrI (wd5 a b c d e q) (24 - 8 * ((q : Int).tmod 4))) 255) →
      X 36 [vR 50, vI a, vI b, vI c, vI d, vI e, vI (k : Int), j7] [] (LL M) h1 0 0 := by
    intro f
    induction f with
    | zero =>
      intro k h1 j7 hk g1 g2 g3 g4 g5
      have e17 : h1 50 17 = (n : Int) := by rw [g2 17 (by decide)]; exact hn
      refine hX 60 [] 36 _ _ _ _ _ _ ?_
      refine And.intro (fun _ => ?_) (fun c40 => absurd c40 (by omega))
      refine And.intro (show inR (h1 50 17 + 20) from ⟨by omega, by omega⟩) ?_
      refine ⟨?_, rfl, fun x x0 x1 => by rw [up_cell x0]; exact g1 x x0 x1, fun q q0 q1 => by rw [up_ne q1]; exact g2 q q0, by rw [up_ne (by decide)]; exact g3, by rw [up_same, e17], fun q hq => by rw [up_cell (by decide)]; exact g4 q hq, fun q hq => by rw [up_cell (by decide)]; exact g5 q (by omega)⟩
      show Sum.inl (some (vI (up h1 50 17 (h1 50 17 + 20) 50 17))) = _
      rw [up_same, e17]
    | succ f ih =>
      intro k h1 j7 hk g1 g2 g3 g4 g5
      have e17 : h1 50 17 = (n : Int) := by rw [g2 17 (by decide)]; exact hn
      have tb := tm_bd (x := (k : Int)) (y := 4) (by omega) (by decide)
      have fin : ∀ w, w = wd5 a b c d e k → X 89 [vR 50, vI a, vI b, vI c, vI d, vI e, vI (k : Int), j7] [vI w] (LL M) h1 0 0 := by
        intro w hw
        subst hw
        refine hX 40 [36, 91] 89 _ _ _ _ _ _ ?_
        show X 91 [_, _, _, _, _, _, _, _] _ _ _ _ _
        refine hX 40 [36] 91 _ _ _ _ _ _ ?_
        refine And.intro (show inR (h1 50 17 + (k : Int)) from ⟨by omega, by omega⟩) ?_
        refine And.intro (by decide) ?_
        refine And.intro ⟨by omega, by omega⟩ ?_
        refine And.intro ⟨by omega, by omega⟩ ?_
        refine And.intro (show 0 ≤ h1 50 17 + (k : Int) ∧ h1 50 17 + (k : Int) < 1500 from ⟨by omega, by omega⟩) ?_
        refine And.intro ⟨by omega, by omega⟩ ?_
        have et : (h1 50 17 + (k : Int)).toNat = n + k := by omega
        have go := ih (k + 1) (up h1 61 (n + k) (iandI (ishrI (wd5 a b c d e k) (24 - 8 * ((k : Int).tmod 4))) 255)) (vI (wd5 a b c d e k)) (by omega) (fun x x0 x1 => by rw [up_cell x1]; exact g1 x x0 x1) (fun q q0 => by rw [up_cell (by decide)]; exact g2 q q0) (by rw [up_cell (by decide)]; exact g3) (fun q hq => by rw [up_ne (by omega)]; exact g4 q hq) (fun q hq => by
          by_cases z : q = k
          · subst z; rw [up_same]
          · rw [up_ne (by omega)]; exact g5 q (by omega))
        rw [← et] at go
        exact go
      refine hX 60 [36, 89] 36 _ _ _ _ _ _ ?_
      refine And.intro (fun c40 => absurd c40 (by omega)) (fun c40 => ?_)
      unfold wd5 at fin
      refine And.intro (fun c46 => ?_) (fun c46 => fin _ (by rw [if_pos (by omega)]))
      refine And.intro (fun c57 => ?_) (fun c57 => fin _ (by rw [if_neg (by omega), if_pos (by omega)]))
      refine And.intro (fun c68 => ?_) (fun c68 => fin _ (by rw [if_neg (by omega), if_neg (by omega), if_pos (by omega)]))
      refine And.intro (fun c79 => ?_) (fun c79 => fin _ (by rw [if_neg (by omega), if_neg (by omega), if_neg (by omega), if_pos (by omega)]))
      exact fin _ (by rw [if_neg (by omega), if_neg (by omega), if_neg (by omega), if_neg (by omega)])
  refine hX 60 [33] 0 _ _ _ _ _ _ ?_
  refine And.intro (show inR (h 50 17 + 20) from ⟨by omega, by omega⟩) ?_
  refine And.intro (fun c16 => absurd (show 1500 < h 50 17 + 20 from c16) (by omega)) (fun _ => ?_)
  refine Ok_rt (mayT (by decide) up_same) ?_
  refine And.intro (fun _ => ?_) (fun c9 => absurd c9 (by decide))
  refine hX 60 [36] 33 _ _ _ _ _ _ ?_
  exact loop 20 0 _ _ (by omega) (fun x x0 _ => up_cell x0) (fun q q0 => up_ne q0) up_same (fun q hq => by rw [up_cell (by decide)]) (fun q hq => absurd hq (Nat.not_lt_zero _))
theorem m_append_x (hn : 1480 < h 50 17) (hn2 : h 50 17 ≤ 1500) : Ok 178 [vR 50, vI a, vI b, vI c, vI d, vI e] (LL M) h (thP M h 0 1) := by
  have fin : ∀ e h', h' = up (up h 50 0 0) 50 0 e → FrM h h' ∧ h' 50 0 = e := fun e h' q => by rw [q, up_up]; exact ⟨FrM_0, up_same⟩
  refine ok_body B_X9_append rfl (fun X hX => ?_)
  refine hX 60 [33] 0 _ _ _ _ _ _ ?_
  refine And.intro (show inR (h 50 17 + 20) from ⟨by omega, by omega⟩) ?_
  refine And.intro (fun _ => ?_) (fun c16 => absurd (show ¬ 1500 < h 50 17 + 20 from Int.not_lt.mpr c16) (by omega))
  refine Ok_rt (mayF (by decide) up_same) ?_
  refine And.intro (fun c9 => absurd rfl c9) (fun _ => ?_)
  exact ⟨rfl, rfl, fin _ _ rfl⟩
theorem m_truncate (hi : 0 ≤ i ∧ i ≤ h 50 17) : Ok 179 [vR 50, vI i] (LL M) h (rt (some (vI i)) (LL M) (up (up h 50 0 0) 50 17 i)) := by
  refine ok_body B_X9_truncate rfl (fun X hX => ?_)
  refine hX 60 [26] 0 _ _ _ _ _ _ ?_
  refine Ok_rt (isIn_t (j := 0) (k := h 50 17) hi) ?_
  refine Ok_rt (mayT (by decide) up_same) ?_
  refine And.intro (fun _ => ?_) (fun c9 => absurd c9 (by decide))
  refine hX 60 [] 26 _ _ _ _ _ _ ?_
  exact rt_mk rfl rfl
theorem m_truncate_x (hi : ¬ (0 ≤ i ∧ i ≤ h 50 17)) : Ok 179 [vR 50, vI i] (LL M) h (thP M h 0 1) := by
  have fin : ∀ e h', h' = up (up h 50 0 0) 50 0 e → FrM h h' ∧ h' 50 0 = e := fun e h' q => by rw [q, up_up]; exact ⟨FrM_0, up_same⟩
  refine ok_body B_X9_truncate rfl (fun X hX => ?_)
  refine hX 60 [26] 0 _ _ _ _ _ _ ?_
  refine Ok_rt (isIn_f (j := 0) (k := h 50 17) hi) ?_
  refine Ok_rt (mayF (by decide) up_same) ?_
  refine And.intro (fun c9 => absurd rfl c9) (fun _ => ?_)
  exact ⟨rfl, rfl, fin _ _ rfl⟩
end MTEXT
