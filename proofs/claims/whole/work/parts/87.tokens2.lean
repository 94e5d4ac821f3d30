/-! ===== an error stays; the tokens that splitTokens tells ===== -/
section ERR
variable {v : HP} {i j k x c a b : Int}
theorem pass_er (z : v 4 10 ≠ 0) : passH v = v := by unfold passH; rw [if_neg z]
theorem fail_er (z : v 4 10 ≠ 0) : failH v x c = v := by unfold failH; rw [if_neg (fun y => z y.2)]
theorem pt_er (z : v 4 10 ≠ 0) : ptH v k = v := by unfold ptH; rw [fail_er z, pass_er z]
theorem num_er (z : v 4 10 ≠ 0) : numH v a b = v := by unfold numH; rw [fail_er z, fail_er z, pass_er z]
theorem nnA_er (z : v 4 10 ≠ 0) : nnA v i = v := by unfold nnA; rw [fail_er z, fail_er z, fail_er z]
theorem nn_er (z : v 4 10 ≠ 0) : nnP v i = v := by
  unfold nnP nnB
  rw [nnA_er z, if_neg z, pass_er z]
theorem kn_er (z : v 4 10 ≠ 0) : knH v i = v := by unfold knH; rw [fail_er z, fail_er z, pass_er z]
theorem tl_er (z : v 4 10 ≠ 0) : tlH v i j k x = v := by unfold tlH; rw [if_neg z]
theorem sp_er (z : v 4 10 ≠ 0) : spH v i x = v := by unfold spH; rw [if_neg z]
theorem rc_er (z : v 4 10 ≠ 0) : rcH v i j = v := by unfold rcH; rw [pt_er z, num_er z, tl_er z]
theorem wdA_er (z : v 4 10 ≠ 0) : wdA v i j = v := by unfold wdA; rw [kn_er z, tl_er z]
theorem wdEH_er (z : v 4 10 ≠ 0) : wdEH v = v := by
  unfold wdEH
  rw [pass_er z, num_er z]
  split
  · rfl
  · split <;> rfl
theorem wdFH_er (z : v 4 10 ≠ 0) : wdFH v = v := by
  unfold wdFH wdPA
  rw [pass_er z, num_er z, pass_er z, num_er z]
  split
  · split <;> rfl
  · rfl
theorem wdS_er (z : v 4 10 ≠ 0) : wdS v i j x = v := by unfold wdS; rw [if_neg z]
theorem wdG_er (z : v 4 10 ≠ 0) : wdG v i j x = v := by unfold wdG; rw [wdFH_er z, wdS_er z, tl_er z, tl_er z]
theorem wd_er (z : v 4 10 ≠ 0) : wdH v i j = v := by unfold wdH; rw [wdA_er z, wdEH_er z, wdG_er z]
end ERR
def skB (f : Int → Int) : Nat → Int → Int
  | 0, i => i
  | m + 1, i => if f i = 10 ∨ f i = 32 then skB f m (i + 1) else i
theorem txB_cg {h g : HP} (e2 : g 2 = h 2) (e3 : g 3 = h 3) : txB g = txB h := by
  funext q
  unfold txB
  rw [e2, e3]
theorem wdK_cg {h g : HP} {i j : Int} (e : txB g = txB h) : ∀ (m k : Nat), wdK g i j m k = wdK h i j m k
  | 0, _ => rfl
  | m + 1, k => by
    unfold wdK wdIs
    rw [e, wdK_cg e m]
theorem kdT_cg {h g : HP} {i j : Int} (e : txB g = txB h) : kdT g i j = kdT h i j := by
  unfold kdT
  rw [e, wdK_cg e]
theorem runE_cg {h g : HP} {i : Int} (e : txB g = txB h) (e2 : g 2 = h 2) : runE g i = runE h i := by
  unfold runE
  rw [e, e2]
/-- a token: start, end, kind, value -/
def tvW (h : HP) (s e k : Int) : Int := if k = 2 then dgL (txB h) (e - s).toNat s 0 else if 8 < e - s then 0 else pkL (txB h) (e - s).toNat s 0
def TKP (h : HP) (s e k w : Int) : Prop := (0 ≤ s ∧ s < h 2 1) ∧ (txB h s ≠ 10 ∧ txB h s ≠ 32) ∧ e = runE h s ∧ k = kdT h s e ∧ w = tvW h s e k
theorem TKP_cg {h g : HP} {s e k w : Int} (e2 : g 2 = h 2) (e3 : g 3 = h 3) (H : TKP g s e k w) : TKP h s e k w := by
  have et := txB_cg e2 e3
  unfold TKP tvW at *
  rw [runE_cg et e2, kdT_cg et, et, e2] at H
  exact H
theorem tok_rd {h : HP} {t a b k q : Int} (ht : 0 ≤ t ∧ t < 1501) : (rd (tokH h t a b k 16) 1501 q = if q = t then a else rd (h 16) 1501 q) ∧ (rd (tokH h t a b k 17) 1501 q = if q = t then b else rd (h 17) 1501 q) ∧
    (rd (tokH h t a b k 15) 1501 q = if q = t then k else rd (h 15) 1501 q) ∧ (rd (tokH h t a b k 18) 1501 q = if q = t then tvW h a b k else rd (h 18) 1501 q) := by
  have ht1 : t < ((1501 : Nat) : Int) := ht.2
  refine ⟨?_, ?_, ?_, ?_⟩
  · have e : tokH h t a b k 16 = wrA h 16 1501 t a 16 := by
      unfold tokH tokB
      rw [wrA_cell (by decide), wrA_cell (by decide), wrA_cell (by decide)]
    rw [e, ← rd_A, rdA_wrA]
    by_cases z : q = t
    · rw [if_pos ⟨ht.1, ht1, z⟩, if_pos z]
    · rw [if_neg (fun y => z y.2.2), if_neg z]; rfl
  · have e : tokH h t a b k 17 = wrA (wrA h 16 1501 t a) 17 1501 t b 17 := by
      unfold tokH tokB
      rw [wrA_cell (by decide), wrA_cell (by decide)]
    rw [e, ← rd_A, rdA_wrA]
    by_cases z : q = t
    · rw [if_pos ⟨ht.1, ht1, z⟩, if_pos z]
    · rw [if_neg (fun y => z y.2.2), if_neg z, rdA_wrA_oth (by decide)]; rfl
  · have e : tokH h t a b k 15 = wrA (wrA (wrA h 16 1501 t a) 17 1501 t b) 15 1501 t k 15 := by
      unfold tokH tokB
      rw [wrA_cell (by decide)]
    rw [e, ← rd_A, rdA_wrA]
    by_cases z : q = t
    · rw [if_pos ⟨ht.1, ht1, z⟩, if_pos z]
    · rw [if_neg (fun y => z y.2.2), if_neg z, rdA_wrA_oth (by decide), rdA_wrA_oth (by decide)]; rfl
  · have e : tokH h t a b k 18 = wrA (tokB h t a b k) 18 1501 t (tvW h a b k) 18 := rfl
    rw [e, ← rd_A, rdA_wrA]
    by_cases z : q = t
    · rw [if_pos ⟨ht.1, ht1, z⟩, if_pos z]
    · rw [if_neg (fun y => z y.2.2), if_neg z]
      unfold tokB
      rw [rdA_wrA_oth (by decide), rdA_wrA_oth (by decide), rdA_wrA_oth (by decide)]; rfl
theorem tok_txt {h : HP} {t a b k : Int} : tokH h t a b k 2 = h 2 ∧ tokH h t a b k 3 = h 3 := ⟨tokH_cell (by decide) (by decide) (by decide) (by decide), tokH_cell (by decide) (by decide) (by decide) (by decide)⟩
/-- what stands behind place p, from token t on; F holds it -/
def TKF (h F : HP) (tl : Int) (t T : Nat) (p : Int) : Prop :=
  (∀ c, 15 ≤ c → c ≤ 18 → ∀ q : Nat, q < t → rd (F c) 1501 q = rd (h c) 1501 q) ∧ rd (F 16) 1501 t = skB (txB h) (tl - p).toNat p ∧
  (∀ q : Nat, t ≤ q → q < T → rd (F 16) 1501 ((q : Int) + 1) = skB (txB h) (tl - rd (F 17) 1501 q).toNat (rd (F 17) 1501 q)) ∧
  (∀ q : Nat, t ≤ q → q < T → TKP h (rd (F 16) 1501 q) (rd (F 17) 1501 q) (rd (F 15) 1501 q) (rd (F 18) 1501 q)) ∧ rd (F 16) 1501 T = tl ∧ rd (F 17) 1501 T = tl ∧ rd (F 15) 1501 T = 1
theorem TKF_end {h : HP} {tl p : Int} {t : Nat} (ht : t ≤ 1500) (hp : p = tl) : TKF h (tokH h t tl tl 1) tl t t p := by
  have r := fun q => tok_rd (h := h) (t := (t : Int)) (a := tl) (b := tl) (k := 1) (q := q) ⟨by omega, by omega⟩
  refine ⟨fun c c0 c1 q hq => ?_, ?_, fun q a b => absurd b (by omega), fun q a b => absurd b (by omega), ?_, ?_, ?_⟩
  · have rq := r (q : Int)
    have ne : ¬ ((q : Int) = (t : Int)) := by omega
    rw [if_neg ne, if_neg ne, if_neg ne, if_neg ne] at rq
    have cc : c = 15 ∨ c = 16 ∨ c = 17 ∨ c = 18 := by omega
    rcases cc with rfl | rfl | rfl | rfl
    · exact rq.2.2.1
    · exact rq.1
    · exact rq.2.1
    · exact rq.2.2.2
  · rw [(r (t : Int)).1, if_pos rfl, hp, show (tl - tl).toNat = 0 by omega]
    rfl
  · rw [(r (t : Int)).1, if_pos rfl]
  · rw [(r (t : Int)).2.1, if_pos rfl]
  · rw [(r (t : Int)).2.2.1, if_pos rfl]
theorem splT_tk {tl : Int} (htl : 0 ≤ tl ∧ tl ≤ 1500) : ∀ (m t : Nat) (p : Int) (h : HP), h 2 1 = tl → 0 ≤ p → p ≤ tl → tl - p ≤ (m : Int) → t + m ≤ 1500 → ∃ T : Nat, t ≤ T ∧ T ≤ t + m ∧ TKF h (splT tl m t p h) tl t T p
  | 0, t, p, h, _, p0, p1, hm, ht => ⟨t, Nat.le_refl _, Nat.le_refl _, TKF_end (by omega) (by omega)⟩
  | m + 1, t, p, h, e2, p0, p1, hm, ht => by
    by_cases z : p < tl
    · have rb := runE_bd (h := h) (i := p) (by omega)
      have fu : (tl - p).toNat = (tl - (p + 1)).toNat + 1 := by omega
      by_cases y : txB h p = 10 ∨ txB h p = 32
      · have st : splT tl (m + 1) t p h = splT tl m t (runE h p) h := by
          conv => lhs; unfold splT
          rw [if_pos z, if_pos y]
        have er : runE h p = p + 1 := by
          unfold runE
          rw [if_neg (by omega), if_neg (by omega)]
        rw [st, er]
        obtain ⟨T, t0, t1, H⟩ := splT_tk htl m t (p + 1) h e2 (by omega) (by omega) (by omega) (by omega)
        refine ⟨T, t0, by omega, H.1, ?_, H.2.2⟩
        rw [H.2.1, fu]
        conv => rhs; unfold skB
        rw [if_pos y]
      · have st : splT tl (m + 1) t p h = splT tl m ((t + 1 : Nat) : Int) (runE h p) (tokH h t p (runE h p) (kdT h p (runE h p))) := by
          conv => lhs; unfold splT
          rw [if_pos z, if_neg y]
          rfl
        rw [st]
        obtain ⟨T, t0, t1, H1, H2, H3, H4, H5⟩ := splT_tk htl m (t + 1) (runE h p) (tokH h t p (runE h p) (kdT h p (runE h p))) (by rw [tok_txt.1]; exact e2) (by omega) (by omega) (by omega) (by omega)
        have r := fun q => tok_rd (h := h) (t := (t : Int)) (a := p) (b := runE h p) (k := kdT h p (runE h p)) (q := q) ⟨by omega, by omega⟩
        have ex := txB_cg (g := tokH h t p (runE h p) (kdT h p (runE h p))) (h := h) tok_txt.1 tok_txt.2
        have rt := r (t : Int)
        rw [if_pos rfl, if_pos rfl, if_pos rfl, if_pos rfl] at rt
        have f16 := (H1 16 (by decide) (by decide) t (by omega)).trans rt.1
        have f17 := (H1 17 (by decide) (by decide) t (by omega)).trans rt.2.1
        have f15 := (H1 15 (by decide) (by decide) t (by omega)).trans rt.2.2.1
        have f18 := (H1 18 (by decide) (by decide) t (by omega)).trans rt.2.2.2
        refine ⟨T, by omega, by omega, fun c c0 c1 q hq => ?_, ?_, fun q q0 q1 => ?_, fun q q0 q1 => ?_, H5⟩
        · rw [H1 c c0 c1 q (by omega)]
          have rq := r (q : Int)
          have ne : ¬ ((q : Int) = (t : Int)) := by omega
          rw [if_neg ne, if_neg ne, if_neg ne, if_neg ne] at rq
          have cc : c = 15 ∨ c = 16 ∨ c = 17 ∨ c = 18 := by omega
          rcases cc with rfl | rfl | rfl | rfl
          · exact rq.2.2.1
          · exact rq.1
          · exact rq.2.1
          · exact rq.2.2.2
        · rw [f16, fu]
          conv => rhs; unfold skB
          rw [if_neg y]
        · by_cases w : q = t
          · subst w
            rw [f17, ← ex]
            exact H2
          · rw [← ex]
            exact H3 q (by omega) q1
        · by_cases w : q = t
          · subst w
            rw [f16, f17, f15, f18]
            exact ⟨⟨p0, by omega⟩, ⟨fun u => y (Or.inl u), fun u => y (Or.inr u)⟩, rfl, rfl, rfl⟩
          · exact TKP_cg tok_txt.1 tok_txt.2 (H4 q (by omega) q1)
    · have st : splT tl (m + 1) t p h = tokH h t tl tl 1 := by
        conv => lhs; unfold splT
        rw [if_neg z]
      rw [st]
      exact ⟨t, Nat.le_refl _, by omega, TKF_end (by omega) (by omega)⟩
