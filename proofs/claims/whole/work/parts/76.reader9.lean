/-! ===== Reader: the token number stays at most that of the last token ===== -/
/-- T is the number of the last token, of kind 1 -/
def RT (T : Nat) (h : HP) : Prop := ((-1 ≤ h 4 7 ∧ h 4 7 ≤ (T : Int)) ∧ rd (h 15) 1501 (T : Int) = 1 ∧ (h 4 10 = 0 → h 4 9 = rd (h 15) 1501 (h 4 7))) ∧
  (0 ≤ h 4 8 ∧ h 4 8 ≤ 1501) ∧ (∀ t, 0 ≤ rd (h 16) 1501 t ∧ rd (h 16) 1501 t ≤ 1501) ∧ (∀ t, -1 ≤ rd (h 17) 1501 t ∧ rd (h 17) 1501 t ≤ 1501) ∧ tvOK h ∧ (h 4 10 ≠ 0 → h 4 9 = -1)
theorem RT_cg {T : Nat} {h g : HP} (H : RT T h) (e4 : g 4 = h 4) (eq : ∀ c, 15 ≤ c → c ≤ 18 → g c = h c) : RT T g := by
  unfold RT tvOK at *
  rw [e4, eq 15 (by decide) (by decide), eq 16 (by decide) (by decide), eq 17 (by decide) (by decide), eq 18 (by decide) (by decide)]
  exact H
theorem RT_pos {T : Nat} {h : HP} (H : RT T h) : posOK h := ⟨H.2.1, H.2.2.2.1 (h 4 7)⟩
theorem passH_8 {h : HP} : passH h 4 8 = if h 4 10 = 0 then rd (h 16) 1501 (h 4 7 + 1) else h 4 8 := by
  unfold passH passA
  split
  · rw [up_ne (by decide), up_same]; rfl
  · rfl
theorem fail_same {h : HP} {x c : Int} (hc : c ≠ 0) (e : failH h x c 4 10 = 0) : failH h x c = h := by
  have a := fail_10 hc e
  unfold failH
  rw [if_neg (fun z => z.1 a.2)]
theorem RT_fail {T : Nat} {h : HP} {x c : Int} (H : RT T h) (hc : c ≠ 0) : RT T (failH h x c) := by
  by_cases z : failH h x c 4 10 = 0
  · rw [fail_same hc z]; exact H
  · unfold RT tvOK at *
    rw [fail_7, failH_7 (q := 8) (by decide) (by decide) (by decide), failH_cell (q := 15) (by decide), failH_cell (q := 16) (by decide), failH_cell (q := 17) (by decide), failH_cell (q := 18) (by decide)]
    refine ⟨⟨H.1.1, H.1.2.1, fun y => absurd y z⟩, H.2.1, H.2.2.1, H.2.2.2.1, H.2.2.2.2.1, fun _ => ?_⟩
    unfold failH at z ⊢
    by_cases w : x ≠ 0 ∧ h 4 10 = 0
    · rw [if_pos w, up_same]
    · rw [if_neg w] at z ⊢
      exact H.2.2.2.2.2 z
theorem RT_pass {T : Nat} {h : HP} (H : RT T h) (hk : h 4 10 = 0 → h 4 9 ≠ 1) : RT T (passH h) := by
  by_cases z : h 4 10 = 0
  · have k := hk z
    obtain ⟨⟨⟨a, b⟩, c, d⟩, p, e16, e17, e18, -⟩ := H
    have d := d z
    have lt : h 4 7 ≠ (T : Int) := fun e => by
      rw [e, c] at d
      exact k d
    have e9 : passH h 4 9 = rd (h 15) 1501 (h 4 7 + 1) := by
      unfold passH
      rw [if_pos z, up_same]
      rfl
    unfold RT tvOK at *
    rw [e9, passH_7, if_pos z, passH_8, if_pos z, passH_cell (q := 15) (by decide), passH_cell (q := 16) (by decide), passH_cell (q := 17) (by decide), passH_cell (q := 18) (by decide)]
    exact ⟨⟨⟨by omega, by omega⟩, c, fun _ => rfl⟩, e16 _, e16, e17, e18, fun y => absurd ((passH_10 (by decide) (by decide) (by decide)).trans z) y⟩
  · have e : passH h = h := by unfold passH; rw [if_neg z]
    rw [e]
    exact H
theorem RT_pt {T : Nat} {h : HP} {k : Int} (H : RT T h) (hk : k ≠ 1) : RT T (ptH h k) := by
  unfold ptH
  refine RT_pass (RT_fail H (by decide)) (fun e => ?_)
  have a := (fail_10 (by decide) e).2
  rw [fail_same (by decide) e]
  by_cases y : h 4 9 = k
  · rw [y]; exact hk
  · rw [if_neg y] at a
    exact absurd a (by decide)
theorem RT_num {T : Nat} {h : HP} {a b : Int} (H : RT T h) : RT T (numH h a b) := by
  unfold numH
  refine RT_pass (RT_fail (RT_fail H (by decide)) (by decide)) (fun e => ?_)
  have s := fail_same (by decide) e
  rw [s] at e
  have c := (fail_10 (by decide) e).2
  rw [s, fail_same (by decide) e]
  by_cases y : h 4 9 = 2
  · rw [y]; decide
  · rw [if_neg y] at c
    exact absurd c (by decide)
theorem nameB_0 {h : HP} (e : nameB h = 0) : h 4 9 ≠ 1 := by
  unfold nameB at e
  split at e
  · next z =>
    have := z.1.1
    omega
  · exact absurd e (by decide)
theorem RT_nn {T : Nat} {h : HP} {i : Int} (H : RT T h) : RT T (nnP h i) := by
  have A : RT T (nnA h i) := RT_fail (RT_fail (RT_fail H (by decide)) (by decide)) (by decide)
  have e4 : nnB h i 4 = nnA h i 4 := by
    unfold nnB
    split
    · exact addNameH_4
    · rfl
  have e15 : ∀ c, 15 ≤ c → c ≤ 18 → nnB h i c = nnA h i c := fun c c1 c2 => by
    unfold nnB
    split
    · unfold addNameH addNameN
      split
      · split
        · rw [wrA_cell (by omega), wrA_cell (by omega), wrA_cell (by omega), wrA_cell (by omega)]
        · rw [wrA_cell (by omega), wrA_cell (by omega), wrA_cell (by omega)]
      · split
        · rw [wrA_cell (by omega), wrA_cell (by omega), wrA_cell (by omega)]
        · rw [wrA_cell (by omega), wrA_cell (by omega)]
    · rfl
  refine RT_pass (RT_cg A e4 e15) (fun e => ?_)
  rw [e4] at e ⊢
  unfold nnA at e ⊢
  have s1 := fail_same (by decide) e
  rw [s1] at e ⊢
  have s2 := fail_same (by decide) e
  rw [s2] at e ⊢
  have s3 := fail_same (by decide) e
  have n := (fail_10 (by decide) e).2
  rw [s3]
  exact nameB_0 n
theorem RT_kn {T : Nat} {h : HP} {i : Int} (H : RT T h) : RT T (knH h i) := by
  unfold knH
  refine RT_pass (RT_fail (RT_fail H (by decide)) (by decide)) (fun e => ?_)
  have s := fail_same (by decide) e
  rw [s] at e ⊢
  have n := (fail_10 (by decide) e).2
  rw [fail_same (by decide) e]
  exact nameB_0 n
theorem RT_tl {T : Nat} {h : HP} {i j k x : Int} (H : RT T h) : RT T (tlH h i j k x) := RT_cg H tl_4 (fun c _ _ => tl_cell (by omega))
theorem RT_wr {T : Nat} {h : HP} {c len : Nat} {i v : Int} (H : RT T h) (h4 : c ≠ 4) (h15 : c < 15 ∨ 18 < c) : RT T (wrA h c len i v) := RT_cg H (wrA_cell (Ne.symm h4)) (fun q _ _ => wrA_cell (by omega))
theorem RT_sp {T : Nat} {h : HP} {i x : Int} (H : RT T h) : RT T (spH h i x) := RT_cg H (sp_cell (by decide) (by decide)) (fun q _ _ => sp_cell (by omega) (by omega))
theorem RT_rc {T : Nat} {h : HP} {i j : Int} (H : RT T h) : RT T (rcH h i j) := RT_tl (RT_num (RT_pt H (by decide)))
theorem RT_rg {T : Nat} {h : HP} (H : RT T h) : RT T (rgH h) := by
  have A : RT T (rgA h) := RT_pt H (by decide)
  have B : RT T (rgB h) := RT_wr (RT_num A) (by decide) (by decide)
  have C : RT T (rgC h) := RT_wr (RT_num B) (by decide) (by decide)
  have D : RT T (rgD h) := RT_pt C (by decide)
  have E : RT T (rgE h) := RT_wr (RT_num D) (by decide) (by decide)
  exact RT_pt E (by decide)
theorem RT_sz {T : Nat} : ∀ (m : Nat) (h : HP), RT T h → RT T (szL m h)
  | 0, _, H => H
  | m + 1, h, H => by
    unfold szL
    split
    · exact RT_sz m _ (RT_nn H)
    · exact H
theorem RT_rs {T : Nat} {h : HP} (H : RT T h) : RT T (rsH h) := RT_pt (RT_sz 6 _ (RT_nn (RT_pt H (by decide)))) (by decide)
theorem RT_me {T : Nat} {id : Int} : ∀ (m : Nat) (k : Int) (g : HP), RT T g → RT T (meL id m k g)
  | 0, _, _, H => H
  | m + 1, k, g, H => by
    unfold meL
    refine RT_me m (k + 1) _ ?_
    split
    · exact RT_wr (RT_num H) (by decide) (by decide)
    · exact RT_num H
theorem RT_rm {T : Nat} {h : HP} (H : RT T h) : RT T (rmH h) := by
  have A : RT T (rmA h) := RT_pt (RT_fail H (by decide)) (by decide)
  have B : RT T (rmB h) := RT_nn A
  exact RT_pt (RT_me _ _ _ B) (by decide)
theorem RT_rl {T : Nat} {h : HP} (H : RT T h) : RT T (rlH h) := by
  have A : RT T (rlA h) := RT_pt (RT_fail H (by decide)) (by decide)
  have B : RT T (rlB h) := RT_num (RT_num A)
  have C : RT T (rlC h) := by
    unfold rlC
    split
    · exact RT_wr (RT_wr (RT_wr B (by decide) (by decide)) (by decide) (by decide)) (by decide) (by decide)
    · exact B
  exact RT_pt C (by decide)
theorem RT_wd {T : Nat} {h : HP} {i j : Int} (H : RT T h) : RT T (wdH h i j) := by
  have A : RT T (wdA h i j) := RT_tl (RT_kn H)
  have E : RT T (wdEH (wdA h i j)) := by
    unfold wdEH
    split
    · next z => exact RT_num (RT_pass A (fun _ => by rw [z]; decide))
    · split
      · next z => exact RT_num (RT_pass A (fun _ => by rw [z]; decide))
      · exact A
  have F : RT T (wdFH (wdEH (wdA h i j))) := by
    unfold wdFH
    split
    · next z =>
      have P : RT T (wdPA (wdEH (wdA h i j))) := RT_num (RT_pass E (fun _ => by rw [z]; decide))
      split
      · next y => exact RT_num (RT_pass P (fun _ => by rw [y]; decide))
      · exact P
    · exact E
  have S : ∀ (g : HP) (e : Int), RT T g → RT T (wdS g i j e) := fun g e G => by
    unfold wdS
    split
    · exact RT_wr G (by decide) (by decide)
    · exact G
  exact RT_tl (RT_tl (S _ _ F))
theorem RT_ca {T : Nat} {h : HP} {i : Int} (H : RT T h) : RT T (caH h i) := RT_pt (RT_rc (RT_wd (RT_sp (RT_pt H (by decide))))) (by decide)
theorem RT_wo {T : Nat} {h : HP} {i : Int} (H : RT T h) : RT T (woH h i) := by
  have B : RT T (woB h i) := RT_sp (RT_pt H (by decide))
  have C : RT T (woC h i) := RT_rc (RT_tl (RT_kn B))
  have D : RT T (woD h i) := by
    unfold woD
    split
    · next z => exact RT_tl (RT_kn (RT_pass C (fun _ => by rw [z]; decide)))
    · exact C
  exact RT_pt D (by decide)
theorem RT_sh {T : Nat} {h : HP} {i : Int} (H : RT T h) : RT T (shH h i) := by
  have B : RT T (shB h i) := RT_sp (RT_pt H (by decide))
  have C : RT T (shC h i) := RT_pt (RT_wd B) (by decide)
  have D : RT T (shD h i) := RT_pt (RT_tl (RT_kn C)) (by decide)
  have E : RT T (shE h i) := RT_rc (RT_tl (RT_num D))
  exact RT_pt E (by decide)
theorem RT_cr {T : Nat} {h : HP} {i j : Int} (H : RT T h) : RT T (crH h i j) := by
  have B : RT T (crB h i j) := RT_fail (RT_fail (RT_fail H (by decide)) (by decide)) (by decide)
  have e4 : crC h i j 4 = crB h i j 4 := by
    unfold crC
    split
    · exact addRow_cell (by decide) (by decide) (by decide)
    · rfl
  have e15 : ∀ c, 15 ≤ c → c ≤ 18 → crC h i j c = crB h i j c := fun c c1 c2 => by
    unfold crC
    split
    · exact addRow_cell (by omega) (by omega) (by omega)
    · rfl
  refine RT_pass (RT_cg B e4 e15) (fun e => ?_)
  rw [e4] at e ⊢
  have s1 := fail_same (h := crA h j) (c := 6) (by decide) e
  have f1 := fail_10 (h := crA h j) (c := 6) (by decide) e
  have s2 := fail_same (h := failH h (if icV h = 0 then 1 else 0) 1) (c := 5) (by decide) f1.1
  have f2 := fail_10 (h := failH h (if icV h = 0 then 1 else 0) 1) (c := 5) (by decide) f1.1
  have s3 := fail_same (h := h) (c := 1) (by decide) f2.1
  have f3 := fail_10 (h := h) (c := 1) (by decide) f2.1
  have eB : crB h i j = h := s1.trans (s2.trans s3)
  rw [eB]
  have n := f3.2
  intro k1
  unfold icV at n
  rw [if_pos (show h 4 9 < 4 by omega), if_pos rfl] at n
  exact absurd n (by decide)
