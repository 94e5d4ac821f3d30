/-! ===== the low word of a packed name is no negative number ===== -/
theorem l2i_lo {x p low : Int} (hx : inRL x) (e : x = p * 4294967296 + low) (h0 : 0 ≤ low ∧ low < 2147483648) : l2iI x = low := by
  unfold l2iI
  rw [Int64.toInt_toInt32, l_to hx, Int.bmod_def]
  have m : x % ((2 ^ 32 : Nat) : Int) = low := by
    have c : ((2 ^ 32 : Nat) : Int) = 4294967296 := by decide
    rw [c, e]
    omega
  rw [m, if_pos (by
    have c : (((2 ^ 32 : Nat) : Int) + 1) / 2 = 2147483648 := by decide
    rw [c]
    exact h0.2)]
theorem pk_lo {g : Nat → Int} {n : Nat} (hn : n ≤ 8) (hl : ∀ k, k < n → ltr (g k)) : 0 ≤ l2iI (pkN g n) := by
  have b := pkN_bd n hl
  have p8 : (256 : Int) ^ n ≤ 256 ^ 8 := by
    have c : n = 0 ∨ n = 1 ∨ n = 2 ∨ n = 3 ∨ n = 4 ∨ n = 5 ∨ n = 6 ∨ n = 7 ∨ n = 8 := by omega
    rcases c with rfl | rfl | rfl | rfl | rfl | rfl | rfl | rfl | rfl <;> decide
  have p9 : (256 : Int) ^ 8 = 18446744073709551616 := by decide
  have r : inRL (pkN g n) := ⟨by omega, by omega⟩
  by_cases z : n < 4
  · have c : n = 0 ∨ n = 1 ∨ n = 2 ∨ n = 3 := by omega
    have s : pkN g n < 2147483648 := by
      have q : (256 : Int) ^ n ≤ 256 ^ 3 := by
        rcases c with rfl | rfl | rfl | rfl <;> decide
      have q3 : (256 : Int) ^ 3 = 16777216 := by decide
      omega
    rw [l2i_lo (p := 0) (low := pkN g n) r (by omega) ⟨b.1, s⟩]
    exact b.1
  · obtain ⟨m, rfl⟩ : ∃ m, n = m + 4 := ⟨n - 4, by omega⟩
    have e : pkN g (m + 4) = (((pkN g m * 256 + g m) * 256 + g (m + 1)) * 256 + g (m + 2)) * 256 + g (m + 3) := rfl
    have h0 := hl m (by omega)
    have h1 := hl (m + 1) (by omega)
    have h2 := hl (m + 2) (by omega)
    have h3 := hl (m + 3) (by omega)
    unfold ltr at h0 h1 h2 h3
    rw [l2i_lo (p := pkN g m) (low := g m * 16777216 + g (m + 1) * 65536 + g (m + 2) * 256 + g (m + 3)) r (by omega) ⟨by omega, by omega⟩]
    omega
