/-! ===== the law's start: what holds between two calls holds ===== -/
theorem INV_core {h g3 : HP} (t2 : 0 ≤ h 2 1 ∧ h 2 1 ≤ 1500) (u : undoOK h) (R : TKI h ∧ rwB 80 h ∧ ptB 50 h) (z : rtE h 4 10 = 0) (TB : TabR (rtE h) g3) (f23 : g3 50 23 = rtE h 4 10) (f24 : g3 50 24 = rtE h 4 11) (b22 : 0 ≤ g3 50 22 ∧ g3 50 22 ≤ 9999) (F : FrD3 (ldH h) g3) : INV (bgH g3) ∧ RI (bgH g3) := by
  have rc : ∀ c, (c < 4 ∨ 18 < c) → rtE h c = h c := fun c hc => rtE_cell t2 R.1 R.2.1 R.2.2 hc
  have kp := rtE_keep t2 R.1 R.2.1 R.2.2
  have c0 := rt_c0 t2 R.1 R.2.1 R.2.2 z
  obtain ⟨d20, d21, d22, d23, d24, d25, d26, d28⟩ := ldH_cells (h := h)
  obtain ⟨b0, b51, b52, b53, b54, b55, b56, b57, ⟨bf1, bf2, bf3, bf4, bf15⟩, bfo, b600, b601⟩ := bg_cells (g := g3)
  have cl : ∀ c, c < 50 → bgH g3 c = ldH h c := fun c hc => (b0 c (by omega) (by omega)).trans (F.1 c (by omega) (by omega))
  obtain ⟨N, S, ⟨st1, st2⟩, Ch, Pc⟩ := TB
  have r20 : ∀ q, rd (bgH g3 20) 32 q = rd (rtE h 6) 32 q := fun q => by rw [cl 20 (by decide)]; exact d20 q
  have r21 : rd (bgH g3 21) 4 = rd (rtE h 7) 4 := by rw [cl 21 (by decide)]; exact funext d21
  have r22 : rd (bgH g3 22) 4 = rd (rtE h 8) 4 := by rw [cl 22 (by decide)]; exact funext d22
  have r23 : rd (bgH g3 23) 32 = rd (rtE h 9) 32 := by rw [cl 23 (by decide)]; exact funext d23
  have r24 : rd (bgH g3 24) 32 = rd (rtE h 10) 32 := by rw [cl 24 (by decide)]; exact funext d24
  have r25 : rd (bgH g3 25) 6 = rd (rtE h 11) 6 := by rw [cl 25 (by decide)]; exact funext d25
  have r26 : rd (bgH g3 26) 540 = rd (rtE h 12) 540 := by rw [cl 26 (by decide)]; exact funext d26
  have r28 : ∀ q, rd (bgH g3 28) 132 q = rd (rtE h 14) 132 q := fun q => by rw [cl 28 (by decide)]; exact d28 q
  have n0 := N.1 0 (by decide)
  have n1 := N.1 1 (by decide)
  have n2 := N.1 2 (by decide)
  have n3 := N.1 3 (by decide)
  have PO : PatOK (rtE h 7) (rtE h 8) (rtE h 9) (rtE h 10) (rtE h 11) (rtE h 12) := ⟨⟨c0, n0.2⟩, n1, n2, n3, fun c x y => (Ch c x y).2, fun p x y => ⟨(Pc p x y).2.1, fun k k0 k1 => ((Pc p x y).2.2 k k0 k1).2⟩⟩
  have CIh : CI (bgH g3) := ⟨PatOK_cg r21 r22 r23 r24 r25 r26 PO, StOK_cg r28 st2⟩
  have h1 : ∀ q, bgH g3 1 q = ldH h 1 q := fun q => by rw [cl 1 (by decide)]
  have e10 : ldH h 1 10 = 0 := by unfold ldH; rw [up_ne (by decide), up_same]
  have e12 : ldH h 1 12 = 0 := by unfold ldH; rw [up_same]
  have e1o : ∀ q, q ≠ 10 → q ≠ 12 → ldH h 1 q = ldA h 1 q := fun q x y => by unfold ldH; rw [up_ne y, up_ne x, cpA_cell (by decide), copy_cells.1 1 (by decide)]
  have a1 : ∀ q, ldA h 1 q = if q = 14 then rtE h 4 11 else if q = 13 then rtE h 4 10 else h 1 q := fun q => by
    unfold ldA
    rw [up_at, up_at, up_cell (by decide), rc 1 (by decide)]
  have e21 : ldH h 2 1 = 0 := by
    unfold ldH
    rw [up_cell (by decide), up_cell (by decide), cpA_cell (by decide), copy_cells.1 2 (by decide)]
    unfold ldA
    rw [up_cell (by decide), up_cell (by decide), up_same]
  refine ⟨⟨⟨CIh, ⟨⟨?_, ?_, ?_, ?_⟩, fun c x y => ?_, fun p x y => ?_, ?_⟩, ?_⟩, ?_, fun t ht => ?_, ?_, ?_, fun i q hi hq => ?_⟩, ⟨?_, ?_⟩⟩
  · rw [bf1, r21]; exact S.1
  · rw [bf2, r21]; exact S.2.1
  · rw [bf3, r21]; exact S.2.2.1
  · rw [bf4, r21]; exact S.2.2.2
  · rw [r21] at y
    rw [b51, r22]
    have w := (Ch c x y).1
    refine ⟨w.1, fun r r0 r1 => ?_⟩
    rw [b52, b53, r23, r24]
    exact w.2 r r0 r1
  · rw [r21] at y
    rw [b54, r25]
    have w := Pc p x y
    refine ⟨w.1, fun k k0 k1 => ?_⟩
    exact PtC_cg (fun j _ _ => b55 _) (fun s _ _ => by unfold cF; rw [r26]) (w.2.2 k k0 k1).1
  · exact StC_cg b57 r28 st1
  · unfold undoOK at *
    rw [h1, h1, e10, e1o 11 (by decide) (by decide), a1, if_neg (by decide), if_neg (by decide)]
    exact ⟨⟨by decide, by decide⟩, u.2⟩
  · unfold PastC
    rw [h1, e10, bf15]
    exact ⟨rfl, fun j hj => absurd hj (by omega)⟩
  · have hz : bgH g3 60 t = 0 := by
      have c : t = 0 ∨ t = 1 := by omega
      rcases c with rfl | rfl
      · exact b600
      · exact b601
    rw [hz]
    refine ⟨Or.inl rfl, ⟨fun y => ?_, fun y => absurd y (by decide)⟩, fun y => absurd y (by decide)⟩
    unfold isSv at y
    rw [h1, e12, sv_0 t ht] at y
    exact absurd rfl y
  · have x17 : bgH g3 50 17 = 0 := (bfo 17 (by decide)).trans F.2.2.1
    unfold TextC
    rw [cl 2 (by decide), e21, x17]
    exact ⟨⟨rfl, by decide, by decide⟩, fun j hj => absurd hj (by omega)⟩
  · unfold FaultC
    rw [bfo 23 (by decide), bfo 24 (by decide), h1, h1, e1o 13 (by decide) (by decide), e1o 14 (by decide) (by decide), a1, a1, if_neg (by decide), if_pos rfl, if_pos rfl]
    exact ⟨f23, f24⟩
  · rw [r21] at hq
    rw [r20]
    have n := N.1 i hi
    have cf := capI_fs hi
    exact nmOK_cg (fun k hk => b56 _ (by omega)) (N.2 i q hi hq)
  · have c : ∀ c, 4 ≤ c → c ≤ 18 → bgH g3 c = rtE h c := fun c x y => (cl c (by omega)).trans (ldH_cell (by omega) (by omega) (by omega) (by omega))
    exact ⟨TKI_cg kp.1 (c 16 (by decide) (by decide)) (c 17 (by decide) (by decide)) (c 18 (by decide) (by decide)), rwB_cg kp.2.1 (c 8 (by decide) (by decide)), ptB_cg kp.2.2 (c 11 (by decide) (by decide))⟩
  · rw [bfo 22 (by decide)]
    exact b22

/-- what the first text tells, read off in one go -/
theorem BIGa : (rd (rtE hB 7) 4 0 = 2 ∧ rd (rtE hB 7) 4 1 = 2 ∧ rd (rtE hB 7) 4 2 = 0 ∧ rd (rtE hB 7) 4 3 = 1) ∧
    (rtE hB 4 11 = -1 ∧ rd (rtE hB 11) 6 0 = 2) ∧
    (∀ i : Nat, i < 9 → cF (rtE hB 12) 0 0 (i : Int) = [0, 0, 0, 0, 1, 0, -1, 0, -1].getD i 0) ∧
    (∀ i : Nat, i < 9 → cF (rtE hB 12) 0 1 (i : Int) = [1, 0, -1, 0, 0, 0, 1, 0, -1].getD i 0) := by decide +kernel
theorem BIGb0 : rd (rtE hB 6) 32 0 = pkN (fun k => hM6 68 (8 * 0 + k)) 1 ∧ rd (rtE hB 6) 32 1 = pkN (fun k => hM6 68 (8 * 1 + k)) 1 ∧ rd (rtE hB 6) 32 8 = pkN (fun k => hM6 68 (8 * 6 + k)) 3 ∧ rd (rtE hB 6) 32 9 = pkN (fun k => hM6 68 (8 * 7 + k)) 4 ∧ rd (rtE hB 6) 32 24 = pkN (fun k => hM6 68 (8 * 18 + k)) 4 := by decide +kernel
theorem BIGb1 : (∀ k : Nat, k < 8 → 1 ≤ k → hM6 68 (8 * 0 + k) = 0) ∧ (∀ k : Nat, k < 8 → 1 ≤ k → hM6 68 (8 * 1 + k) = 0) ∧ (∀ k : Nat, k < 8 → 3 ≤ k → hM6 68 (8 * 6 + k) = 0) ∧ (∀ k : Nat, k < 8 → 4 ≤ k → hM6 68 (8 * 7 + k) = 0) ∧ (∀ k : Nat, k < 8 → 4 ≤ k → hM6 68 (8 * 18 + k) = 0) := by decide +kernel
theorem BIGb2 : (∀ k : Nat, k < 1 → 97 ≤ hM6 68 (8 * 0 + k) ∧ hM6 68 (8 * 0 + k) ≤ 122) ∧ (∀ k : Nat, k < 1 → 97 ≤ hM6 68 (8 * 1 + k) ∧ hM6 68 (8 * 1 + k) ≤ 122) ∧ (∀ k : Nat, k < 3 → 97 ≤ hM6 68 (8 * 6 + k) ∧ hM6 68 (8 * 6 + k) ≤ 122) ∧ (∀ k : Nat, k < 4 → 97 ≤ hM6 68 (8 * 7 + k) ∧ hM6 68 (8 * 7 + k) ≤ 122) ∧ (∀ k : Nat, k < 4 → 97 ≤ hM6 68 (8 * 18 + k) ∧ hM6 68 (8 * 18 + k) ≤ 122) := by decide +kernel
theorem BIGb3a : (∀ i : Nat, i < 9 → cF (fun q => hM6 66 q) 0 0 0 = cF (fun q => hM6 66 q) 0 0 0) ∧ (∀ i : Nat, i < 8 → rd (hM6 66) 480 (i : Int) = [0, 0, 0, 1, 0, -1, 0, -1].getD i 0) ∧ (∀ i : Nat, i < 8 → rd (hM6 66) 480 (8 + (i : Int)) = [1, 0, -1, 0, 0, 1, 0, -1].getD i 0) := by decide +kernel
theorem BIGb3b : rd (hM6 65) 6 0 = 2 ∧ hM6 50 25 = 2 ∧ hM6 50 26 = 2 ∧ hM6 50 27 = 0 ∧ hM6 50 28 = 1 ∧ hM6 50 22 = 0 ∧ hM6 50 23 = 0 ∧ hM6 50 24 = -1 := by decide +kernel
theorem BIGc0 : ∀ m : Nat, m < 8 → ∀ s : Nat, s < 6 → rd (hM6 67) 132 (4 + 6 * (m : Int) + (s : Int)) = rd (rtE hB 14) 132 (24 + (m : Int) * 6 + (s : Int)) := by decide +kernel
theorem BIGc1 : ∀ p : Nat, p < 6 → ∀ k : Nat, k < 10 → rd (hM6 67) 132 (52 + 10 * (p : Int) + (k : Int)) = rd (rtE hB 14) 132 (72 + (p : Int) * 10 + (k : Int)) := by decide +kernel
theorem BIGc2 : rd (rtE hB 14) 132 3 = 1 ∧ rd (hM6 67) 132 112 = rd (rtE hB 14) 132 4 ∧ rd (hM6 67) 132 113 = rd (rtE hB 14) 132 14 := by decide +kernel
theorem BIGc3 : rd (hM6 67) 132 0 = rd (rtE hB 14) 132 0 ∧ rd (hM6 67) 132 1 = rd (rtE hB 14) 132 1 ∧ rd (hM6 67) 132 2 = rd (rtE hB 14) 132 2 ∧ rd (hM6 67) 132 3 = rd (rtE hB 14) 132 3 := by decide +kernel
theorem BIGc4 : rd (rtE hB 14) 132 0 = 20 ∧ rd (rtE hB 14) 132 1 = 30 ∧ rd (rtE hB 14) 132 2 = 10 := by decide +kernel
theorem BIGd : (∀ i : Nat, i < 14 → 4 ≤ i → 0 ≤ rd (rtE hB 14) 132 (i : Int) ∧ rd (rtE hB 14) 132 (i : Int) ≤ 3) ∧ (∀ i : Nat, i < 24 → 14 ≤ i → 0 ≤ rd (rtE hB 14) 132 (i : Int) ∧ rd (rtE hB 14) 132 (i : Int) ≤ 9999) ∧ (∀ i : Nat, i < 72 → 24 ≤ i → 0 ≤ rd (rtE hB 14) 132 (i : Int) ∧ rd (rtE hB 14) 132 (i : Int) ≤ 3000) ∧ (∀ i : Nat, i < 132 → 72 ≤ i → -999 ≤ rd (rtE hB 14) 132 (i : Int) ∧ rd (rtE hB 14) 132 (i : Int) ≤ 999) := by decide +kernel
theorem BIG : ((rd (rtE hB 7) 4 0 = 2 ∧ rd (rtE hB 7) 4 1 = 2 ∧ rd (rtE hB 7) 4 2 = 0 ∧ rd (rtE hB 7) 4 3 = 1) ∧
    (rtE hB 4 11 = -1 ∧ rd (rtE hB 11) 6 0 = 2) ∧
    (∀ i : Nat, i < 9 → cF (rtE hB 12) 0 0 (i : Int) = [0, 0, 0, 0, 1, 0, -1, 0, -1].getD i 0) ∧
    (∀ i : Nat, i < 9 → cF (rtE hB 12) 0 1 (i : Int) = [1, 0, -1, 0, 0, 0, 1, 0, -1].getD i 0)) ∧
    ((rd (rtE hB 6) 32 0 = pkN (fun k => hM6 68 (8 * 0 + k)) 1 ∧ rd (rtE hB 6) 32 1 = pkN (fun k => hM6 68 (8 * 1 + k)) 1 ∧ rd (rtE hB 6) 32 8 = pkN (fun k => hM6 68 (8 * 6 + k)) 3 ∧ rd (rtE hB 6) 32 9 = pkN (fun k => hM6 68 (8 * 7 + k)) 4 ∧ rd (rtE hB 6) 32 24 = pkN (fun k => hM6 68 (8 * 18 + k)) 4) ∧
    ((∀ k : Nat, k < 8 → 1 ≤ k → hM6 68 (8 * 0 + k) = 0) ∧ (∀ k : Nat, k < 8 → 1 ≤ k → hM6 68 (8 * 1 + k) = 0) ∧ (∀ k : Nat, k < 8 → 3 ≤ k → hM6 68 (8 * 6 + k) = 0) ∧ (∀ k : Nat, k < 8 → 4 ≤ k → hM6 68 (8 * 7 + k) = 0) ∧ (∀ k : Nat, k < 8 → 4 ≤ k → hM6 68 (8 * 18 + k) = 0)) ∧
    ((∀ k : Nat, k < 1 → 97 ≤ hM6 68 (8 * 0 + k) ∧ hM6 68 (8 * 0 + k) ≤ 122) ∧ (∀ k : Nat, k < 1 → 97 ≤ hM6 68 (8 * 1 + k) ∧ hM6 68 (8 * 1 + k) ≤ 122) ∧ (∀ k : Nat, k < 3 → 97 ≤ hM6 68 (8 * 6 + k) ∧ hM6 68 (8 * 6 + k) ≤ 122) ∧ (∀ k : Nat, k < 4 → 97 ≤ hM6 68 (8 * 7 + k) ∧ hM6 68 (8 * 7 + k) ≤ 122) ∧ (∀ k : Nat, k < 4 → 97 ≤ hM6 68 (8 * 18 + k) ∧ hM6 68 (8 * 18 + k) ≤ 122)) ∧
    ((∀ i : Nat, i < 9 → cF (fun q => hM6 66 q) 0 0 0 = cF (fun q => hM6 66 q) 0 0 0) ∧ (∀ i : Nat, i < 8 → rd (hM6 66) 480 (i : Int) = [0, 0, 0, 1, 0, -1, 0, -1].getD i 0) ∧ (∀ i : Nat, i < 8 → rd (hM6 66) 480 (8 + (i : Int)) = [1, 0, -1, 0, 0, 1, 0, -1].getD i 0) ∧ rd (hM6 65) 6 0 = 2 ∧ hM6 50 25 = 2 ∧ hM6 50 26 = 2 ∧ hM6 50 27 = 0 ∧ hM6 50 28 = 1 ∧ hM6 50 22 = 0 ∧ hM6 50 23 = 0 ∧ hM6 50 24 = -1)) ∧
    ((∀ m : Nat, m < 8 → ∀ s : Nat, s < 6 → rd (hM6 67) 132 (4 + 6 * (m : Int) + (s : Int)) = rd (rtE hB 14) 132 (24 + (m : Int) * 6 + (s : Int))) ∧
    (∀ p : Nat, p < 6 → ∀ k : Nat, k < 10 → rd (hM6 67) 132 (52 + 10 * (p : Int) + (k : Int)) = rd (rtE hB 14) 132 (72 + (p : Int) * 10 + (k : Int))) ∧
    (rd (rtE hB 14) 132 3 = 1 ∧ rd (hM6 67) 132 112 = rd (rtE hB 14) 132 4 ∧ rd (hM6 67) 132 113 = rd (rtE hB 14) 132 14) ∧
    (rd (hM6 67) 132 0 = rd (rtE hB 14) 132 0 ∧ rd (hM6 67) 132 1 = rd (rtE hB 14) 132 1 ∧ rd (hM6 67) 132 2 = rd (rtE hB 14) 132 2 ∧ rd (hM6 67) 132 3 = rd (rtE hB 14) 132 3) ∧
    (rd (rtE hB 14) 132 0 = 20 ∧ rd (rtE hB 14) 132 1 = 30 ∧ rd (rtE hB 14) 132 2 = 10)) ∧
    (∀ i : Nat, i < 14 → 4 ≤ i → 0 ≤ rd (rtE hB 14) 132 (i : Int) ∧ rd (rtE hB 14) 132 (i : Int) ≤ 3) ∧
    (∀ i : Nat, i < 24 → 14 ≤ i → 0 ≤ rd (rtE hB 14) 132 (i : Int) ∧ rd (rtE hB 14) 132 (i : Int) ≤ 9999) ∧
    (∀ i : Nat, i < 72 → 24 ≤ i → 0 ≤ rd (rtE hB 14) 132 (i : Int) ∧ rd (rtE hB 14) 132 (i : Int) ≤ 3000) ∧
    (∀ i : Nat, i < 132 → 72 ≤ i → -999 ≤ rd (rtE hB 14) 132 (i : Int) ∧ rd (rtE hB 14) 132 (i : Int) ≤ 999) := ⟨BIGa, ⟨BIGb0, BIGb1, BIGb2, BIGb3a.1, BIGb3a.2.1, BIGb3a.2.2, BIGb3b⟩, ⟨BIGc0, BIGc1, BIGc2, BIGc3, BIGc4⟩, BIGd⟩
theorem B1 (q : Nat) : rtE hB 1 q = hA 1 q := by
  rw [rtE_cell rtB_h2 TKI_B rwB_B ptB_B (by decide)]
  unfold hB
  rw [addTx_c (by decide) (by decide)]
theorem hC_1 (q : Nat) : hC 1 q = hA 1 q := by
  unfold hC
  rw [cpA_cell (by decide), copy_cells.1 1 (by decide), up_cell (by decide), B1]
theorem hC_ld : ldH hB = hC := by
  have a1 : up (up (rtE hB) 2 1 0) 1 13 (rtE hB 4 10) = up (rtE hB) 2 1 0 := up_id (by rw [up_cell (by decide), B1, rtB_ok]; decide +kernel)
  have a2 : up (up (rtE hB) 2 1 0) 1 14 (rtE hB 4 11) = up (rtE hB) 2 1 0 := up_id (by rw [up_cell (by decide), B1, BIG.1.2.1.1]; decide +kernel)
  have a3 : ldA hB = up (rtE hB) 2 1 0 := by unfold ldA; rw [a1, a2]
  have c : ldH hB = up (up hC 1 10 0) 1 12 0 := by unfold ldH; rw [a3]; rfl
  have a4 : up hC 1 10 0 = hC := up_id (by rw [hC_1]; decide +kernel)
  have a5 : up hC 1 12 0 = hC := up_id (by rw [hC_1]; decide +kernel)
  rw [c, a4, a5]
theorem hL_cell {c : Nat} (n : c ≠ 50) (n5 : c ≠ 65) (n6 : c ≠ 66) (n7 : c ≠ 67) (n8 : c ≠ 68) : hM6 c = hC c := by
  unfold hM6 hM5 hM4 hM3 hM2 hM1 hM0
  simp only [up_cell n, up_cell n5, up_cell n6, up_cell n7, up_cell n8]
theorem hL_50 {q : Nat} (a : q < 18 ∨ 28 < q) : hM6 50 q = 0 := by
  unfold hM6 hM5 hM4 hM3 hM2 hM1 hM0
  simp (disch := decide) only [up_cell]
  rw [up_ne (by omega), up_ne (by omega), up_ne (by omega), up_ne (by omega), hC_c (by decide)]
theorem FrD3_M : FrD3 (ldH hB) hM6 := by
  rw [hC_ld]
  refine ⟨fun c c0 c1 => hL_cell c0 (by omega) (by omega) (by omega) (by omega), hL_50 (by decide), hL_50 (by decide), fun q _ _ q2 => ?_⟩
  rw [hL_50 q2, hC_c (by decide)]
theorem NmR_M : NmR (rtE hB) hM6 := by
  obtain ⟨t0, t1, t2, t3⟩ := BIG.1.1
  obtain ⟨⟨v0, v1, v2, v3, v4⟩, ⟨z0, z1, z2, z3, z4⟩, ⟨l0, l1, l2, l3, l4⟩, -⟩ := BIG.2.1
  refine ⟨fun i hi => ?_, fun i q hi hq => ?_⟩
  · have c4 : i = 0 ∨ i = 1 ∨ i = 2 ∨ i = 3 := by omega
    rcases c4 with rfl | rfl | rfl | rfl
    · show 0 ≤ rd (rtE hB 7) 4 0 ∧ rd (rtE hB 7) 4 0 ≤ 6
      rw [t0]; decide
    · show 0 ≤ rd (rtE hB 7) 4 1 ∧ rd (rtE hB 7) 4 1 ≤ 8
      rw [t1]; decide
    · show 0 ≤ rd (rtE hB 7) 4 2 ∧ rd (rtE hB 7) 4 2 ≤ 4
      rw [t2]; decide
    · show 0 ≤ rd (rtE hB 7) 4 3 ∧ rd (rtE hB 7) 4 3 ≤ 6
      rw [t3]; decide
  · have c4 : i = 0 ∨ i = 1 ∨ i = 2 ∨ i = 3 := by omega
    rcases c4 with rfl | rfl | rfl | rfl
    · have hq2 : (q : Int) < 2 := t0 ▸ hq
      have c2 : q = 0 ∨ q = 1 := by omega
      rcases c2 with rfl | rfl
      · exact ⟨1, by decide, l0, fun k a b => z0 k b a, v0⟩
      · exact ⟨1, by decide, l1, fun k a b => z1 k b a, v1⟩
    · have hq2 : (q : Int) < 2 := t1 ▸ hq
      have c2 : q = 0 ∨ q = 1 := by omega
      rcases c2 with rfl | rfl
      · exact ⟨3, by decide, l2, fun k a b => z2 k b a, v2⟩
      · exact ⟨4, by decide, l3, fun k a b => z3 k b a, v3⟩
    · have hq2 : (q : Int) < 0 := t2 ▸ hq
      omega
    · have hq2 : (q : Int) < 1 := t3 ▸ hq
      have c2 : q = 0 := by omega
      subst c2
      exact ⟨4, by decide, l4, fun k a b => z4 k b a, v4⟩
theorem StC_M : StC (hM6 67) (rtE hB 14) := by
  obtain ⟨k1, k2, k3, k4, -⟩ := BIG.2.2.1
  refine ⟨k4, fun m s m0 m1 s0 s1 => ?_, fun p k p0 p1 q0 q1 => ?_, fun x x0 x1 => ?_⟩
  · obtain ⟨m', rfl⟩ := Int.eq_ofNat_of_zero_le m0
    obtain ⟨s', rfl⟩ := Int.eq_ofNat_of_zero_le s0
    exact k1 m' (by omega) s' (by omega)
  · obtain ⟨p', rfl⟩ := Int.eq_ofNat_of_zero_le p0
    obtain ⟨k', rfl⟩ := Int.eq_ofNat_of_zero_le q0
    exact k2 p' (by omega) k' (by omega)
  · rw [k3.1] at x1
    have e : x = 0 := by omega
    subst e
    exact k3.2
theorem StOK_M : StOK (rtE hB 14) := by
  obtain ⟨k1, k2, k3, k4⟩ := BIG.2.2.2
  obtain ⟨-, -, ⟨l3, -⟩, -, g0, g1, g2⟩ := BIG.2.2.1
  refine ⟨by rw [g0]; decide, by rw [g1]; decide, by rw [g2]; decide, by rw [l3]; decide, fun i a b => ?_, fun i a b => ?_, fun i a b => ?_, fun i a b => ?_⟩
  · obtain ⟨i', rfl⟩ := Int.eq_ofNat_of_zero_le (show 0 ≤ i by omega)
    exact k1 i' (by omega) (by omega)
  · obtain ⟨i', rfl⟩ := Int.eq_ofNat_of_zero_le (show 0 ≤ i by omega)
    exact k2 i' (by omega) (by omega)
  · obtain ⟨i', rfl⟩ := Int.eq_ofNat_of_zero_le (show 0 ≤ i by omega)
    exact k3 i' (by omega) (by omega)
  · obtain ⟨i', rfl⟩ := Int.eq_ofNat_of_zero_le (show 0 ≤ i by omega)
    exact k4 i' (by omega) (by omega)
theorem PcR_M : PcR (rtE hB) hM6 := by
  obtain ⟨⟨t0, t1, t2, t3⟩, ⟨-, e2⟩, f0, f1⟩ := BIG.1
  obtain ⟨-, m0, m1, m65, -⟩ := BIG.2.1.2.2.2
  intro p p0 p1
  rw [t3] at p1
  have ep : p = 0 := by omega
  subst ep
  refine ⟨m65.trans e2.symm, by rw [e2]; decide, fun k k0 k1 => ?_⟩
  rw [e2] at k1
  have ck : k = 0 ∨ k = 1 := by omega
  rcases ck with rfl | rfl
  · have a0 : cF (rtE hB 12) 0 0 0 = 0 := f0 0 (by decide)
    have a1 : cF (rtE hB 12) 0 0 1 = 0 := f0 1 (by decide)
    have a2 : cF (rtE hB 12) 0 0 2 = 0 := f0 2 (by decide)
    have a4 : cF (rtE hB 12) 0 0 4 = 1 := f0 4 (by decide)
    have a5 : cF (rtE hB 12) 0 0 5 = 0 := f0 5 (by decide)
    have a6 : cF (rtE hB 12) 0 0 6 = -1 := f0 6 (by decide)
    have a7 : cF (rtE hB 12) 0 0 7 = 0 := f0 7 (by decide)
    have a8 : cF (rtE hB 12) 0 0 8 = -1 := f0 8 (by decide)
    refine ⟨?_, ?_⟩
    · unfold PtC
      rw [a0, a1, a2, a4, a5, a6, a7, a8]
      exact ⟨⟨m0 0 (by decide), m0 1 (by decide), m0 2 (by decide), m0 3 (by decide)⟩, m0 4 (by decide), m0 5 (by decide), m0 6 (by decide), m0 7 (by decide)⟩
    · unfold PtOK
      rw [a0, a1, a2, a4, a5, a6, a7, a8, t1, t2]
      omega
  · have a0 : cF (rtE hB 12) 0 1 0 = 1 := f1 0 (by decide)
    have a1 : cF (rtE hB 12) 0 1 1 = 0 := f1 1 (by decide)
    have a2 : cF (rtE hB 12) 0 1 2 = -1 := f1 2 (by decide)
    have a4 : cF (rtE hB 12) 0 1 4 = 0 := f1 4 (by decide)
    have a5 : cF (rtE hB 12) 0 1 5 = 0 := f1 5 (by decide)
    have a6 : cF (rtE hB 12) 0 1 6 = 1 := f1 6 (by decide)
    have a7 : cF (rtE hB 12) 0 1 7 = 0 := f1 7 (by decide)
    have a8 : cF (rtE hB 12) 0 1 8 = -1 := f1 8 (by decide)
    refine ⟨?_, ?_⟩
    · unfold PtC
      rw [a0, a1, a2, a4, a5, a6, a7, a8]
      exact ⟨⟨m1 0 (by decide), m1 1 (by decide), m1 2 (by decide), m1 3 (by decide)⟩, m1 4 (by decide), m1 5 (by decide), m1 6 (by decide), m1 7 (by decide)⟩
    · unfold PtOK
      rw [a0, a1, a2, a4, a5, a6, a7, a8, t1, t2]
      omega
theorem TabR_M : TabR (rtE hB) hM6 := by
  obtain ⟨t0, t1, t2, t3⟩ := BIG.1.1
  obtain ⟨-, -, -, -, s0, s1, s2, s3, -⟩ := BIG.2.1.2.2.2
  refine ⟨NmR_M, ⟨s0.trans t0.symm, s1.trans t1.symm, s2.trans t2.symm, s3.trans t3.symm⟩, ⟨StC_M, StOK_M⟩, fun c c0 c1 => ?_, PcR_M⟩
  rw [t2] at c1
  omega
theorem JV_M0 : JV hM := by
  obtain ⟨-, -, -, -, -, -, -, -, f22, f23, f24⟩ := BIG.2.1.2.2.2
  refine INV_core rtB_h2 ?_ ⟨TKI_B, rwB_B, ptB_B⟩ rtB_ok TabR_M (f23.trans rtB_ok.symm) (f24.trans BIG.1.2.1.1.symm) (by rw [f22]; decide) FrD3_M
  unfold undoOK hB
  rw [addTx_c (by decide) (by decide)]
  decide +kernel
theorem JV_zS {s : Nat → Int} {l : Int} {h : HP} (J : JV h) : JV (zS s l h) :=
  ⟨INV_fr J.1 (fun c x => by unfold inI at x; exact z_c h (by omega)) (fun q _ => by rw [z_c h (by decide)]), RI_fr J.2 (fun c a b => z_c h (by omega)) (by rw [z_c h (by decide)])⟩
