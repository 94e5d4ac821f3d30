/-! ===== Reader: what the lines of a text leave alone ===== -/
theorem addName_cell {h : HP} {i w : Int} {q : Nat} (h6 : q ≠ 6) (h7 : q ≠ 7) (h8 : q ≠ 8 ∨ i ≠ 2) (h11 : q ≠ 11 ∨ i ≠ 3) : addNameH h 5 i w q = h q := by
  have e : addNameN h 5 i w (rdA h (5 + 2) 4 i) q = h q := by
    unfold addNameN
    rw [wrA_cell h7, wrA_cell h6]
  unfold addNameH
  split
  · next z =>
    have n : q ≠ 11 := by
      rcases h11 with y | y
      · exact y
      · exact absurd z y
    rw [if_neg (by omega), wrA_cell n]
    exact e
  · split
    · next z =>
      have n : q ≠ 8 := by
        rcases h8 with y | y
        · exact y
        · exact absurd z y
      rw [wrA_cell n]
      exact e
    · exact e
theorem nn_cell {h : HP} {i : Int} {q : Nat} (h4 : q ≠ 4) (h6 : q ≠ 6) (h7 : q ≠ 7) (h8 : q ≠ 8 ∨ i ≠ 2) (h11 : q ≠ 11 ∨ i ≠ 3) : nnP h i q = h q := by
  unfold nnP
  rw [passH_cell h4]
  unfold nnB
  split
  · rw [addName_cell h6 h7 h8 h11]; exact nnA_cell h4
  · exact nnA_cell h4
/-- each kind has so many names at most -/
def cntB (b : Int) (h : HP) : Prop := ∀ q, 0 ≤ rdA h 7 4 q ∧ rdA h 7 4 q ≤ b
theorem cntB_cg {b : Int} {h g : HP} (H : cntB b h) (e : g 7 = h 7) : cntB b g := fun q => by rw [rdA_cg e]; exact H q
theorem cntB_le {b c : Int} {h : HP} (H : cntB b h) (e : b ≤ c) : cntB c h := fun q => by have := H q; omega
theorem cntB_nn {b i : Int} {h : HP} (hi : 0 ≤ i ∧ i ≤ 3) (H : cntB b h) : cntB (b + 1) (nnP h i) := fun q => by
  have a := nn_cnt (h := h) (i := i) (j := q) hi
  have := H q
  omega
theorem rg_cell {h : HP} {q : Nat} (h4 : q ≠ 4) (h14 : q ≠ 14) : rgH h q = h q := by
  unfold rgH
  rw [pt_cell h4]
  unfold rgE
  rw [wrA_cell h14, num_cell h4]
  unfold rgD
  rw [pt_cell h4]
  unfold rgC
  rw [wrA_cell h14, num_cell h4]
  unfold rgB
  rw [wrA_cell h14, num_cell h4]
  unfold rgA
  rw [pt_cell h4]
theorem sz_cell {q : Nat} (h4 : q ≠ 4) (h6 : q ≠ 6) (h7 : q ≠ 7) : ∀ (m : Nat) (h : HP), szL m h q = h q
  | 0, _ => rfl
  | m + 1, h => by
    unfold szL
    split
    · rw [sz_cell h4 h6 h7 m, nn_cell h4 h6 h7 (Or.inr (by decide)) (Or.inr (by decide))]
    · rfl
theorem rs_cell {h : HP} {q : Nat} (h4 : q ≠ 4) (h6 : q ≠ 6) (h7 : q ≠ 7) : rsH h q = h q := by
  unfold rsH
  rw [pt_cell h4, sz_cell h4 h6 h7, nn_cell h4 h6 h7 (Or.inr (by decide)) (Or.inr (by decide)), pt_cell h4]
theorem cntB_sz : ∀ (m : Nat) (b : Int) (h : HP), cntB b h → cntB (b + (m : Int)) (szL m h)
  | 0, b, h, H => cntB_le H (by omega)
  | m + 1, b, h, H => by
    unfold szL
    split
    · exact cntB_le (cntB_sz m (b + 1) _ (cntB_nn ⟨by decide, by decide⟩ H)) (by omega)
    · exact cntB_le H (by omega)
theorem cntB_rs {b : Int} {h : HP} (H : cntB b h) : cntB (b + 7) (rsH h) := by
  have A : cntB b (ptH h 7) := cntB_cg H (pt_cell (by decide))
  have B := cntB_sz 6 (b + 1) _ (cntB_nn (i := 0) ⟨by decide, by decide⟩ A)
  exact cntB_le (cntB_cg B (g := rsH h) (by unfold rsH; rw [pt_cell (by decide)])) (by omega)
theorem me_cell {id : Int} {q : Nat} (h4 : q ≠ 4) (h14 : q ≠ 14) : ∀ (m : Nat) (k : Int) (g : HP), meL id m k g q = g q
  | 0, _, _ => rfl
  | m + 1, k, g => by
    unfold meL
    rw [me_cell h4 h14 m]
    split
    · rw [wrA_cell h14, num_cell h4]
    · exact num_cell h4
theorem rmA_cell {h : HP} {q : Nat} (h4 : q ≠ 4) : rmA h q = h q := by unfold rmA; rw [pt_cell h4, failH_cell h4]
theorem rm_cell {h : HP} {q : Nat} (h4 : q ≠ 4) (h6 : q ≠ 6) (h7 : q ≠ 7) (h14 : q ≠ 14) : rmH h q = h q := by
  unfold rmH
  rw [pt_cell h4, me_cell h4 h14]
  unfold rmB
  rw [nn_cell h4 h6 h7 (Or.inr (by decide)) (Or.inr (by decide)), rmA_cell h4]
theorem cntB_rm {b : Int} {h : HP} (H : cntB b h) : cntB (b + 1) (rmH h) := by
  have A : cntB b (rmA h) := cntB_cg H (rmA_cell (by decide))
  have B : cntB (b + 1) (rmB h) := cntB_nn ⟨by decide, by decide⟩ A
  exact cntB_cg B (by unfold rmH; rw [pt_cell (by decide), me_cell (by decide) (by decide)])
theorem chL_cell {i : Int} {q : Nat} (h4 : q ≠ 4) (h8 : q ≠ 8) (h9 : q ≠ 9) (h10 : q ≠ 10) : ∀ (m : Nat) (k : Int) (g : HP), chL i m k g q = g q
  | 0, _, _ => rfl
  | m + 1, k, g => by
    unfold chL
    split
    · rw [chL_cell h4 h8 h9 h10 m, cr_cell h4 h8 h9 h10]
    · rfl
theorem ch_tail {h : HP} {q : Nat} (h4 : q ≠ 4) (h8 : q ≠ 8) (h9 : q ≠ 9) (h10 : q ≠ 10) : chH h q = chB h q := by
  unfold chH
  rw [pt_cell h4, failH_cell h4]
  unfold chC
  rw [chL_cell h4 h8 h9 h10, cr_cell h4 h8 h9 h10]
theorem chA_cell {h : HP} {q : Nat} (h4 : q ≠ 4) : chA h q = h q := by unfold chA; rw [pt_cell h4, failH_cell h4]
theorem ch_cell {h : HP} {q : Nat} (h4 : q ≠ 4) (h6 : q ≠ 6) (h7 : q ≠ 7) (h8 : q ≠ 8) (h9 : q ≠ 9) (h10 : q ≠ 10) : chH h q = h q := by
  rw [ch_tail h4 h8 h9 h10]
  unfold chB
  rw [nn_cell h4 h6 h7 (Or.inl h8) (Or.inr (by decide)), chA_cell h4]
theorem cntB_ch {b : Int} {h : HP} (H : cntB b h) : cntB (b + 1) (chH h) := by
  have A : cntB b (chA h) := cntB_cg H (chA_cell (by decide))
  have B : cntB (b + 1) (chB h) := cntB_nn ⟨by decide, by decide⟩ A
  exact cntB_cg B (ch_tail (by decide) (by decide) (by decide) (by decide))
theorem piL_cell {i : Int} {q : Nat} (h4 : q ≠ 4) (h11 : q ≠ 11) (h12 : q ≠ 12) (h14 : q ≠ 14) : ∀ (m : Nat) (k : Int) (g : HP), piL i m k g q = g q
  | 0, _, _ => rfl
  | m + 1, k, g => by
    unfold piL
    split
    · rw [piL_cell h4 h11 h12 h14 m, piS_cell h4 h11 h12 h14]
    · rfl
theorem pi_tail {h : HP} {q : Nat} (h4 : q ≠ 4) (h11 : q ≠ 11) (h12 : q ≠ 12) (h14 : q ≠ 14) : piH h q = piB h q := by
  unfold piH
  rw [pt_cell h4, pt_cell h4, piL_cell h4 h11 h12 h14, ca_cell h4 h11 h12 h14]
theorem piA_cell {h : HP} {q : Nat} (h4 : q ≠ 4) : piA h q = h q := by unfold piA; rw [pt_cell h4, failH_cell h4]
theorem piB_cell {h : HP} {q : Nat} (h4 : q ≠ 4) (h6 : q ≠ 6) (h7 : q ≠ 7) (h11 : q ≠ 11) : piB h q = h q := by
  unfold piB
  rw [pt_cell h4, nn_cell h4 h6 h7 (Or.inr (by decide)) (Or.inl h11), piA_cell h4]
theorem pi_cell {h : HP} {q : Nat} (h4 : q ≠ 4) (h6 : q ≠ 6) (h7 : q ≠ 7) (h11 : q ≠ 11) (h12 : q ≠ 12) (h14 : q ≠ 14) : piH h q = h q := by
  rw [pi_tail h4 h11 h12 h14, piB_cell h4 h6 h7 h11]
theorem cntB_pi {b : Int} {h : HP} (H : cntB b h) : cntB (b + 1) (piH h) := by
  have A : cntB b (piA h) := cntB_cg H (piA_cell (by decide))
  have B : cntB (b + 1) (nnP (piA h) 3) := cntB_nn ⟨by decide, by decide⟩ A
  have C : cntB (b + 1) (piB h) := cntB_cg B (by unfold piB; rw [pt_cell (by decide)])
  exact cntB_cg C (pi_tail (by decide) (by decide) (by decide) (by decide))
theorem rl_cell {h : HP} {q : Nat} (h4 : q ≠ 4) (h14 : q ≠ 14) : rlH h q = h q := by
  have B : rlB h q = h q := by
    unfold rlB
    rw [num_cell h4, num_cell h4]
    unfold rlA
    rw [pt_cell h4, failH_cell h4]
  unfold rlH
  rw [pt_cell h4]
  unfold rlC
  split
  · rw [wrA_cell h14, wrA_cell h14, wrA_cell h14]; exact B
  · exact B
/-! the number of lots -/
abbrev L3 (h : HP) : Int := rdA h 14 132 3
theorem L3_cg {h g : HP} (e : g 14 = h 14) : L3 g = L3 h := rdA_cg e
theorem L3_wr {h : HP} {i v : Int} (hi : i ≠ 3) : L3 (wrA h 14 132 i v) = L3 h := by
  show rdA (wrA h 14 132 i v) 14 132 3 = rdA h 14 132 3
  rw [rdA_wrA, if_neg (by omega)]
theorem L3_rg {h : HP} : L3 (rgH h) = L3 h := by
  have a : L3 (rgH h) = L3 (rgE h) := L3_cg (by unfold rgH; rw [pt_cell (by decide)])
  have b : L3 (rgE h) = L3 (rgD h) := by unfold rgE; rw [L3_wr (by decide)]; exact L3_cg (num_cell (by decide))
  have c : L3 (rgD h) = L3 (rgC h) := L3_cg (by unfold rgD; rw [pt_cell (by decide)])
  have d : L3 (rgC h) = L3 (rgB h) := by unfold rgC; rw [L3_wr (by decide)]; exact L3_cg (num_cell (by decide))
  have e : L3 (rgB h) = L3 (rgA h) := by unfold rgB; rw [L3_wr (by decide)]; exact L3_cg (num_cell (by decide))
  have f : L3 (rgA h) = L3 h := L3_cg (by unfold rgA; rw [pt_cell (by decide)])
  rw [a, b, c, d, e, f]
theorem L3_me {id : Int} (hid : -1 ≤ id) : ∀ (m : Nat) (k : Int) (g : HP), 0 ≤ k → L3 (meL id m k g) = L3 g
  | 0, _, _, _ => rfl
  | m + 1, k, g, hk => by
    unfold meL
    rw [L3_me hid m (k + 1) _ (by omega)]
    split
    · rw [L3_wr (by omega)]; exact L3_cg (num_cell (by decide))
    · exact L3_cg (num_cell (by decide))
theorem L3_rm {b : Int} {h : HP} (H : cntB b h) : L3 (rmH h) = L3 h := by
  have i0 : -1 ≤ rmI h := by
    unfold rmI
    split
    · rw [rdA_cg (rmA_cell (by decide))]
      have := H 1
      omega
    · omega
  have a : L3 (rmH h) = L3 (meL (rmI h) (rdA (rmB h) 7 4 0).toNat 0 (rmB h)) := L3_cg (by unfold rmH; rw [pt_cell (by decide)])
  rw [a, L3_me i0 _ _ _ (by decide)]
  exact L3_cg (by unfold rmB; rw [nn_cell (by decide) (by decide) (by decide) (Or.inl (by decide)) (Or.inl (by decide)), rmA_cell (by decide)])
theorem wdA_cell {h : HP} {i j : Int} {q : Nat} (h4 : q ≠ 4) (h12 : q ≠ 12) : wdA h i j q = h q := by unfold wdA; rw [tl_cell h12, kn_cell h4]
theorem wdEH_cell {g : HP} {q : Nat} (h4 : q ≠ 4) : wdEH g q = g q := by
  unfold wdEH
  split
  · rw [num_cell h4, passH_cell h4]
  · split
    · rw [num_cell h4, passH_cell h4]
    · rfl
theorem wdFH_cell {g : HP} {q : Nat} (h4 : q ≠ 4) : wdFH g q = g q := by
  have eP : wdPA g q = g q := by unfold wdPA; rw [num_cell h4, passH_cell h4]
  unfold wdFH
  split
  · split
    · rw [num_cell h4, passH_cell h4, eP]
    · exact eP
  · rfl
theorem wdS_4 {g : HP} {i j e : Int} : wdS g i j e 4 = g 4 := by
  unfold wdS
  split
  · rw [wrA_cell (by decide)]
  · rfl
theorem wd_4 {h : HP} {i j : Int} : wdH h i j 4 = wdFH (wdEH (wdA h i j)) 4 := by
  unfold wdH wdG
  rw [tl_4, tl_4, wdS_4]
theorem L3_wd {h : HP} {i j : Int} (hi : h 4 10 = 0 → 0 ≤ i ∧ 0 ≤ j) : L3 (wdH h i j) = L3 h := by
  have a : L3 (wdH h i j) = L3 (wdS (wdFH (wdEH (wdA h i j))) i j (wdE (wdA h i j))) := L3_cg (by unfold wdH wdG; rw [tl_cell (by decide), tl_cell (by decide)])
  have b : L3 (wdFH (wdEH (wdA h i j))) = L3 h := L3_cg (by rw [wdFH_cell (by decide), wdEH_cell (by decide), wdA_cell (by decide) (by decide)])
  rw [a]
  unfold wdS
  split
  · next z =>
    have e : wdH h i j 4 10 = 0 := by rw [wd_4]; exact z
    have := hi (wd_10 e)
    rw [L3_wr (by omega)]
    exact b
  · exact b
/-- parts at i, if nothing is wrong yet -/
def ptR2 (h : HP) (i : Int) : Prop := h 4 10 = 0 → 0 ≤ i ∧ 0 ≤ rdA h 11 6 i
theorem spV_2 {h : HP} {i k x : Int} (r : ptR2 h i) (e : spH (ptH h k) i x 4 10 = 0) : 0 ≤ i ∧ 0 ≤ spV (ptH h k) i := by
  rw [sp_4] at e
  have a := r (pt_10 e).1
  unfold spV
  rw [if_pos e, rdA_cg (pt_cell (by decide))]
  exact a
theorem L3_ca {h : HP} {i : Int} (r : ptR2 h i) : L3 (caH h i) = L3 h := by
  have a : L3 (caH h i) = L3 (wdH (caB h i) i (caJ h i)) := L3_cg (by unfold caH; rw [pt_cell (by decide), rc_cell (by decide) (by decide)])
  rw [a, L3_wd (h := caB h i) (i := i) (j := caJ h i) (fun e => spV_2 r e)]
  exact L3_cg (by unfold caB; rw [sp_cell (by decide) (by decide), pt_cell (by decide)])
theorem L3_sh {h : HP} {i : Int} (r : ptR2 h i) : L3 (shH h i) = L3 h := by
  have a : L3 (shH h i) = L3 (wdH (shB h i) i (shJ h i)) := L3_cg (by
    unfold shH
    rw [pt_cell (by decide)]
    unfold shE
    rw [rc_cell (by decide) (by decide), tl_cell (by decide), num_cell (by decide)]
    unfold shD
    rw [pt_cell (by decide), tl_cell (by decide), kn_cell (by decide)]
    unfold shC
    rw [pt_cell (by decide)])
  rw [a, L3_wd (h := shB h i) (i := i) (j := shJ h i) (fun e => spV_2 r e)]
  exact L3_cg (by unfold shB; rw [sp_cell (by decide) (by decide), pt_cell (by decide)])
theorem L3_piS {b i k : Int} {g : HP} (hi : g 4 10 = 0 → 0 ≤ i) (hp : ptB b g) : L3 (piS i k g) = L3 g := by
  have f : L3 (piF k g) = L3 g := L3_cg (by unfold piF; rw [failH_cell (by decide)])
  have r : ptR2 (piF k g) i := fun e => ⟨hi (piF_10 e), by rw [rdA_cg (show piF k g 11 = g 11 by unfold piF; rw [failH_cell (by decide)])]; exact (hp i).1⟩
  unfold piS
  split
  · rw [L3_cg (wo_cell (by decide) (by decide) (by decide)), f]
  · rw [L3_sh r, f]
theorem L3_piL {i : Int} : ∀ (m : Nat) (b k : Int) (g : HP), (g 4 10 = 0 → 0 ≤ i) → ptB b g → L3 (piL i m k g) = L3 g
  | 0, _, _, _, _, _ => rfl
  | m + 1, b, k, g, hi, hp => by
    unfold piL
    split
    · rw [L3_piL m (b + 1) (k + 1) _ (fun e => hi (piS_10 e)) (ptB_piS hp), L3_piS hi hp]
    · rfl
theorem L3_pi {h : HP} (hn : 0 ≤ rdA h 7 4 3 ∧ rdA h 7 4 3 ≤ 900) (hp : ptB 50 h) : L3 (piH h) = L3 h := by
  have ib := piI_bd hn
  have pB : ptB 50 (piB h) := ptB_pt (ptB_nn (ptB_cg hp (by unfold piA; rw [pt_cell (by decide), failH_cell (by decide)])))
  have a : L3 (piH h) = L3 (piL (piI h) 10 1 (caH (piB h) (piI h))) := L3_cg (by unfold piH; rw [pt_cell (by decide), pt_cell (by decide)])
  rw [a, L3_piL 10 _ _ _ (fun e => (ib.2 (ca_10 e)).1) (ptB_ca pB), L3_ca (fun e => ⟨(ib.2 e).1, (pB (piI h)).1⟩)]
  exact L3_cg (piB_cell (by decide) (by decide) (by decide) (by decide))
theorem L3_rl {h : HP} : L3 (rlH h) = L3 h ∨ L3 (rlH h) = L3 h + 1 := by
  have B : L3 (rlB h) = L3 h := L3_cg (by
    unfold rlB
    rw [num_cell (by decide), num_cell (by decide)]
    unfold rlA
    rw [pt_cell (by decide), failH_cell (by decide)])
  have a : L3 (rlH h) = L3 (rlC h) := L3_cg (by unfold rlH; rw [pt_cell (by decide)])
  rw [a]
  unfold rlC
  split
  · right
    show rdA (wrA _ 14 132 3 (rdA h 14 132 3 + 1)) 14 132 3 = rdA h 14 132 3 + 1
    rw [rdA_wrA, if_pos ⟨by decide, by decide, rfl⟩]
  · left
    exact B
