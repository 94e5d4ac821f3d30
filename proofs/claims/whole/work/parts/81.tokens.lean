/-! ===== what the cells of the tokens hold, whatever was read before ===== -/
theorem pkL_sh (f : Int → Int) (a : Int) : ∀ (m : Nat) (i x : Int), pkL f m (a + i) x = pkL (fun q => f (a + q)) m i x
  | 0, _, _ => rfl
  | m + 1, i, x => by
    show (if 97 ≤ f (a + i) ∧ f (a + i) ≤ 122 then pkL f m (a + i + 1) (lorI (lshlI x 8) (f (a + i))) else 0) = (if 97 ≤ f (a + i) ∧ f (a + i) ≤ 122 then pkL (fun q => f (a + q)) m (i + 1) (lorI (lshlI x 8) (f (a + i))) else 0)
    rw [show a + i + 1 = a + (i + 1) by omega, pkL_sh f a m (i + 1)]
theorem pkL_lo {f : Int → Int} {m : Nat} {a : Int} (hm : m ≤ 8) : 0 ≤ l2iI (pkL f m a 0) := by
  have e : pkL f m a 0 = pkL (fun q => f (a + q)) m 0 0 := by
    have := pkL_sh f a m 0 0
    rw [Int.add_zero] at this
    exact this
  rw [e]
  by_cases all : ∀ k : Nat, k < m → ltr (f (a + (k : Int)))
  · have o := pkL_ok (f := fun q => f (a + q)) (g := fun k : Nat => f (a + (k : Int))) m 0 (by omega) (fun k hk => absurd hk (Nat.not_lt_zero _)) (fun k _ k2 => ⟨rfl, all k (by omega)⟩)
    rw [Nat.zero_add] at o
    have o2 : pkL (fun q => f (a + q)) m 0 0 = pkN (fun k : Nat => f (a + (k : Int))) m := o
    rw [o2]
    exact pk_lo hm (fun k hk => all k hk)
  · have hex : ∃ k : Nat, 0 ≤ k ∧ k < 0 + m ∧ ¬ ltr ((fun q => f (a + q)) (k : Int)) := by
      by_cases z : ∃ k : Nat, 0 ≤ k ∧ k < 0 + m ∧ ¬ ltr ((fun q => f (a + q)) (k : Int))
      · exact z
      · refine absurd (fun k hk => ?_) all
        by_cases y : ltr (f (a + (k : Int)))
        · exact y
        · exact absurd ⟨k, by omega, by omega, y⟩ z
    have o := pkL_no (f := fun q => f (a + q)) m 0 0 hex
    have o2 : pkL (fun q => f (a + q)) m 0 0 = 0 := o
    rw [o2, l2i_lo (x := 0) (p := 0) (low := 0) ⟨by decide, by decide⟩ (by decide) ⟨by decide, by decide⟩]
    exact Int.le_refl _
def dgB : Nat → Int
  | 0 => 9999
  | 1 => 999
  | 2 => 99
  | 3 => 9
  | _ => 0
theorem dgL_bd {f : Int → Int} : ∀ (m : Nat) (i x : Int), m ≤ 4 → 0 ≤ x → x ≤ dgB m → (∀ q, i ≤ q → q < i + (m : Int) → 48 ≤ f q ∧ f q ≤ 57) → 0 ≤ dgL f m i x ∧ dgL f m i x ≤ 9999
  | 0, _, x, _, h0, h1, _ => ⟨h0, h1⟩
  | m + 1, i, x, hm, h0, h1, hd => by
    have d := hd i (by omega) (by omega)
    have st : dgL f (m + 1) i x = dgL f m (i + 1) (x * 10 + f i - 48) := rfl
    rw [st]
    have c : m = 0 ∨ m = 1 ∨ m = 2 ∨ m = 3 := by omega
    have b : x * 10 + f i - 48 ≤ dgB m := by
      rcases c with rfl | rfl | rfl | rfl
      · have h1 : x ≤ 999 := h1
        show x * 10 + f i - 48 ≤ 9999
        omega
      · have h1 : x ≤ 99 := h1
        show x * 10 + f i - 48 ≤ 999
        omega
      · have h1 : x ≤ 9 := h1
        show x * 10 + f i - 48 ≤ 99
        omega
      · have h1 : x ≤ 0 := h1
        show x * 10 + f i - 48 ≤ 9
        omega
    exact dgL_bd m (i + 1) _ (by omega) (by omega) b (fun q q0 q1 => hd q (by omega) (by omega))
def TKI (h : HP) : Prop := (∀ t, 0 ≤ rd (h 16) 1501 t ∧ rd (h 16) 1501 t ≤ 1501) ∧ (∀ t, -1 ≤ rd (h 17) 1501 t ∧ rd (h 17) 1501 t ≤ 1501) ∧ tvOK h
theorem TKI_cg {h g : HP} (H : TKI h) (e16 : g 16 = h 16) (e17 : g 17 = h 17) (e18 : g 18 = h 18) : TKI g := by
  unfold TKI tvOK at *
  rw [e16, e17, e18]
  exact H
theorem TKI_tok {h : HP} {t a b k : Int} (H : TKI h) (ha : 0 ≤ a ∧ a ≤ 1501) (hb : 0 ≤ b ∧ b ≤ 1501) (hd : k = 2 → (a ≤ b ∧ b ≤ a + 4) ∧ ∀ q, a ≤ q → q < b → 48 ≤ txB h q ∧ txB h q ≤ 57) : TKI (tokH h t a b k) := by
  obtain ⟨h16, h17, h18⟩ := H
  have e16 : tokH h t a b k 16 = wrA h 16 1501 t a 16 := by
    unfold tokH tokB
    rw [wrA_cell (by decide), wrA_cell (by decide), wrA_cell (by decide)]
  have e17 : tokH h t a b k 17 = wrA (wrA h 16 1501 t a) 17 1501 t b 17 := by
    unfold tokH tokB
    rw [wrA_cell (by decide), wrA_cell (by decide)]
  have c17 : wrA h 16 1501 t a 17 = h 17 := wrA_cell (by decide)
  have c18 : tokB h t a b k 18 = h 18 := by
    unfold tokB
    rw [wrA_cell (by decide), wrA_cell (by decide), wrA_cell (by decide)]
  have v : 0 ≤ l2iI (if k = 2 then dgL (txB h) (b - a).toNat a 0 else if 8 < b - a then 0 else pkL (txB h) (b - a).toNat a 0) := by
    by_cases z : k = 2
    · have d := hd z
      rw [if_pos z]
      have db := dgL_bd (f := txB h) (b - a).toNat a 0 (by omega) (by decide) (by
        have c : (b - a).toNat = 0 ∨ (b - a).toNat = 1 ∨ (b - a).toNat = 2 ∨ (b - a).toNat = 3 ∨ (b - a).toNat = 4 := by omega
        rcases c with c | c | c | c | c <;> rw [c] <;> decide) (fun q q0 q1 => d.2 q q0 (by omega))
      rw [l2i_lo (p := 0) (low := dgL (txB h) (b - a).toNat a 0) ⟨by omega, by omega⟩ (by omega) ⟨by omega, by omega⟩]
      exact db.1
    · rw [if_neg z]
      by_cases y : 8 < b - a
      · rw [if_pos y, l2i_lo (x := 0) (p := 0) (low := 0) ⟨by decide, by decide⟩ (by decide) ⟨by decide, by decide⟩]
        exact Int.le_refl _
      · rw [if_neg y]
        exact pkL_lo (by omega)
  refine ⟨fun q => ?_, fun q => ?_, fun q => ?_⟩
  · rw [e16]
    rcases rdA_wr (h := h) (a := 16) (len := 1501) (i := t) (v := a) (q := q) with y | y
    · rw [← rd_A, y]; exact ha
    · rw [← rd_A, y]; exact h16 q
  · rw [e17]
    rcases rdA_wr (h := wrA h 16 1501 t a) (a := 17) (len := 1501) (i := t) (v := b) (q := q) with y | y
    · rw [← rd_A, y]; omega
    · rw [← rd_A, y, rdA_cg c17]; exact h17 q
  · rcases rdA_wr (h := tokB h t a b k) (a := 18) (len := 1501) (i := t) (v := (if k = 2 then dgL (txB h) (b - a).toNat a 0 else if 8 < b - a then 0 else pkL (txB h) (b - a).toNat a 0)) (q := q) with y | y
    · have y2 : rd (tokH h t a b k 18) 1501 q = (if k = 2 then dgL (txB h) (b - a).toNat a 0 else if 8 < b - a then 0 else pkL (txB h) (b - a).toNat a 0) := y
      rw [y2]
      omega
    · have y2 : rd (tokH h t a b k 18) 1501 q = rdA (tokB h t a b k) 18 1501 q := y
      rw [y2, rdA_cg c18]
      exact h18 q
