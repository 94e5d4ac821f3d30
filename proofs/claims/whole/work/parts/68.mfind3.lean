/-! ===== names: the class's find is the model's ===== -/
theorem nm_ne {f : Nat → Int} {j : Nat} {v : Int} (hn : nmOK f j v) : v ≠ 0 := by
  obtain ⟨l, ⟨l1, l8⟩, hl, hz, hv⟩ := hn
  have b := (pkN_bd l hl).2.2 (by omega)
  omega
theorem fstI_wh (f : Int → Bool) : ∀ (m s : Nat), (fstI f m (s : Int) = -1 ∧ ∀ q : Nat, s ≤ q → q < s + m → f (q : Int) ≠ true) ∨ ∃ q : Nat, s ≤ q ∧ q < s + m ∧ fstI f m (s : Int) = (q : Int) ∧ f (q : Int) = true ∧ ∀ q' : Nat, s ≤ q' → q' < q → f (q' : Int) ≠ true
  | 0, s => Or.inl ⟨rfl, fun q h1 h2 => absurd h2 (by omega)⟩
  | m + 1, s => by
    unfold fstI
    by_cases z : f (s : Int) = true
    · rw [if_pos z]
      exact Or.inr ⟨s, Nat.le_refl _, by omega, rfl, z, fun q' h1 h2 => absurd h2 (by omega)⟩
    · rw [if_neg z]
      have ih := fstI_wh f m (s + 1)
      rw [show ((s + 1 : Nat) : Int) = (s : Int) + 1 by omega] at ih
      rcases ih with ⟨a, b⟩ | ⟨q, q1, q2, q3, q4, q5⟩
      · refine Or.inl ⟨a, fun q h1 h2 => ?_⟩
        by_cases e : q = s
        · rw [e]; exact z
        · exact b q (by omega) (by omega)
      · refine Or.inr ⟨q, by omega, by omega, q3, q4, fun q' h1 h2 => ?_⟩
        by_cases e : q' = s
        · rw [e]; exact z
        · exact q5 q' (by omega) h2
/-- a text of the class against a name -/
theorem nm_key {h : HP} {i q len : Nat} (T : TextC h) (N : NameC h) (hi : i < 4) (hq : (q : Int) < rd (h 21) 4 (i : Int)) (hlen : h 2 1 = (len : Int)) :
    ((rdA h 20 32 ((i : Int) * 8 + (q : Int)) == (if 8 < h 2 1 - 0 then 0 else pkL (txB h) (h 2 1 - 0).toNat 0 0)) = true) ↔ fnP h len (fsI i + q) := by
  have nm := N i q hi hq
  have nz := nm_ne nm
  have l15 := T.1.2.2
  rw [beq_iff_eq, rd_A]
  by_cases l8 : 8 < len
  · rw [if_pos (by omega)]
    exact ⟨fun e => absurd e nz, fun e => absurd e.1.2 (by omega)⟩
  · rw [if_neg (by omega), show (h 2 1 - 0).toNat = len by omega]
    by_cases l1 : 1 ≤ len
    · have tk : ∀ k : Nat, k < len → h 61 k = txB h (k : Int) := fun k hk => by
        unfold txB
        rw [if_pos ⟨by omega, by omega, by omega⟩, Int.toNat_natCast]
        exact T.2 k (by omega)
      by_cases nzs : ∀ k, k < len → h 61 k ≠ 0
      · have e := name_eq (t := fun k => if k < len then h 61 k else 0) (x := txB h) nm l1 (by omega) (fun k hk => by
          show (if k < len then h 61 k else 0) = _ ∧ (if k < len then h 61 k else 0) ≠ 0
          rw [if_pos hk]
          exact ⟨tk k hk, nzs k hk⟩) (fun k hk _ => if_neg (by omega))
        exact ⟨fun z => ⟨⟨l1, by omega⟩, nzs, e.mpr z⟩, fun z => e.mp z.2.2⟩
      · have hex : ∃ k : Nat, 0 ≤ k ∧ k < 0 + len ∧ ¬ ltr (txB h (k : Int)) := by
          by_cases z : ∃ k : Nat, 0 ≤ k ∧ k < 0 + len ∧ ¬ ltr (txB h (k : Int))
          · exact z
          · refine absurd (fun k hk => ?_) nzs
            by_cases y : ltr (txB h (k : Int))
            · rw [tk k hk]
              unfold ltr at y
              omega
            · exact absurd ⟨k, by omega, by omega, y⟩ z
        have e2 : pkL (txB h) len 0 0 = 0 := pkL_no (f := txB h) len 0 0 hex
        rw [e2]
        exact ⟨fun e => absurd e nz, fun e => absurd e.2.1 nzs⟩
    · have e0 : len = 0 := by omega
      subst e0
      have e1 : pkL (txB h) 0 0 0 = 0 := rfl
      rw [e1]
      exact ⟨fun e => absurd e nz, fun e => absurd e.1.1 (by decide)⟩
theorem fnd_wh {h : HP} {i len : Nat} (T : TextC h) (N : NameC h) (hi : i < 4) (hlen : h 2 1 = (len : Int)) : whI (fun q => fnP h len (fsI i + q)) (rd (h 21) 4 (i : Int)).toNat (fndF h (i : Int)) := by
  have key : ∀ q : Nat, q < (rd (h 21) 4 (i : Int)).toNat → (((rdA h 20 32 ((i : Int) * 8 + (q : Int)) == (if 8 < h 2 1 - 0 then 0 else pkL (txB h) (h 2 1 - 0).toNat 0 0)) = true) ↔ fnP h len (fsI i + q)) := fun q hq => nm_key T N hi (by omega) hlen
  have F := fstI_wh (fun q => rdA h 20 32 ((i : Int) * 8 + q) == (if 8 < h 2 1 - 0 then 0 else pkL (txB h) (h 2 1 - 0).toNat 0 0)) (rd (h 21) 4 (i : Int)).toNat 0
  unfold fndF
  rcases F with ⟨a, b⟩ | ⟨q, q1, q2, q3, q4, q5⟩
  · exact Or.inl ⟨a, fun q hq => fun z => b q (by omega) (by omega) ((key q hq).mpr z)⟩
  · exact Or.inr ⟨q, by omega, q3, (key q (by omega)).mp q4, fun q' hq' => fun z => q5 q' (by omega) hq' ((key q' (by omega)).mpr z)⟩
/-- the class's name number is any that the model may find -/
theorem fnd_eq {h h1 : HP} {i len : Nat} {r : Int} (H : INV h) (hi : i < 4) (hlen : h 2 1 = (len : Int)) (e61 : h1 61 = h 61) (e56 : h1 56 = h 56) (W : whI (fun q => fnP h1 len (fsI i + q)) (rd (h 21) 4 (i : Int)).toNat r) : r = fndF h (i : Int) := by
  have W2 : whI (fun q => fnP h len (fsI i + q)) (rd (h 21) 4 (i : Int)).toNat r := by
    refine whI_congr (fun q _ => ?_) W
    unfold fnP
    rw [e61, e56]
  exact whI_fun W2 (fnd_wh H.2.2.2.1 H.2.2.2.2.2 hi hlen)
theorem INV_find {h h2 : HP} (H : INV h) (g1 : ∀ c, c ≠ 50 → h2 c = up h 2 1 0 c) (g2 : ∀ q, q ≠ 0 → q ≠ 17 → q ≠ 18 → q ≠ 19 → q ≠ 20 → h2 50 q = h 50 q) (g3 : h2 50 17 = 0) : INV h2 := by
  refine INV_txt H (fun c hc c2 c3 c61 => ?_) (fun q hq q17 => ?_) ?_
  · unfold inI at hc
    rw [g1 c (by omega), up_cell c2]
  · unfold inF at hq
    exact g2 q (by omega) q17 (by omega) (by omega) (by omega)
  · have e21 : h2 2 1 = 0 := by rw [g1 2 (by decide), up_same]
    unfold TextC
    rw [e21, g3]
    exact ⟨⟨rfl, by decide, by decide⟩, fun j hj => absurd hj (by omega)⟩
