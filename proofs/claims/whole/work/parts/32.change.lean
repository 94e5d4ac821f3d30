/-! ===== KnitGrader: changes ===== -/
def remB (h : HP) : HP := up (cpA h 28 132 0 47 1056 (h 1 11 * 132) 132) 1 11 ((h 1 11 + 1).tmod 8)
/-- the present state is kept for undo -/
def remH (h : HP) : HP := if h 1 10 < 8 then up (remB h) 1 10 (h 1 10 + 1) else remB h
theorem remH_cell {h : HP} {c : Nat} (h1 : c ≠ 1) (h2 : c ≠ 47) : remH h c = h c := by
  unfold remH remB
  split
  · rw [up_cell h1, up_cell h1, cpA_cell h2]
  · rw [up_cell h1, cpA_cell h2]
def undoOK (h : HP) : Prop := (0 ≤ h 1 10 ∧ h 1 10 ≤ 8) ∧ 0 ≤ h 1 11 ∧ h 1 11 < 8
def gaugeH (h : HP) (a b c : Int) : HP := wrA (wrA (wrA (remH h) 28 132 0 a) 28 132 1 b) 28 132 2 c
def gradeH (m x y : Int) : Nat → Int → HP → HP
  | 0, _, h => h
  | q + 1, t, h => gradeH m x y q (t + 1) (wrA h 28 132 (24 + m * 6 + t) (x + y * t))
def addLH (h : HP) (c m : Int) : HP := wrA (wrA (wrA (remH h) 28 132 (4 + rd (h 28) 132 3) c) 28 132 (14 + rd (h 28) 132 3) m) 28 132 3 (rd (h 28) 132 3 + 1)
def undoT (h : HP) : Int := (h 1 11 + 8 - 1).tmod 8
def undoH (h : HP) : HP := cpA (up (up h 1 11 (undoT h)) 1 10 (h 1 10 - 1)) 47 1056 (undoT h * 132) 28 132 0 132
def saveH (h : HP) (s : Int) : HP := up (cpA h 28 132 0 49 264 (s * 132) 132) 1 12 (iorI (h 1 12) (ishlI 1 s))
def restH (h : HP) (s : Int) : HP := up (cpA h 49 264 (s * 132) 28 132 0 132) 1 10 0
def flI (h : HP) (s q : Int) : Int := if fl (gD h s q) (gN h q) = 0 then 0 else 1
def fpI (h : HP) (s : Int) : Nat → Nat → Int → Int
  | 0, _, a => a
  | m + 1, q, a => fpI h s m (q + 1) (a + flI h s q)
def fpO (h : HP) (n : Nat) : Nat → Nat → Int → Int
  | 0, _, a => a
  | m + 1, t, a => fpO h n m (t + 1) (fpI h t n 0 a)
theorem fpI_bd (h : HP) (s : Int) : ∀ (m q : Nat) (a : Int), a ≤ fpI h s m q a ∧ fpI h s m q a ≤ a + m
  | 0, _, a => by unfold fpI; omega
  | m + 1, q, a => by
    have ih := fpI_bd h s m (q + 1) (a + flI h s q)
    have : 0 ≤ flI h s q ∧ flI h s q ≤ 1 := by unfold flI; split <;> omega
    unfold fpI
    omega
section CHANGE
variable {N : List CT} {h : HP} {i j k m s p c l x y a b : Int} {n ns : Nat}
theorem rem_ok (hu : undoOK h) : Ok 172 [vR 1] (LC N) h (rt none (LC N) (remH h)) := by
  obtain ⟨⟨u1, u2⟩, u3, u4⟩ := hu
  have tb := tm_bd (x := h 1 11 + 1) (y := 8) (by omega) (by omega)
  have e : ∀ q, cpA h 28 132 0 47 1056 (h 1 11 * 132) 132 1 q = h 1 q := fun q => by rw [cpA_cell (by decide)]
  refine ok_body B_X8_rememberForUndo rfl (fun X hX => ?_)
  refine hX 40 [28] 0 _ _ _ _ _ _ ?_
  refine Ok_rt (keep_ok (Or.inl ⟨rfl, rfl⟩) ⟨by omega, by omega⟩) ?_
  refine And.intro (show inR (cpA h 28 132 0 47 1056 (h 1 11 * 132) 132 1 11 + 1) from (by rw [e]; exact ⟨by omega, by omega⟩)) ?_
  refine And.intro (by decide) ?_
  refine pI (P := fun z => X 28 [vR 1] [] (LC N) (up (cpA h 28 132 0 47 1056 (h 1 11 * 132) 132) 1 11 z) 0 0) (show (cpA h 28 132 0 47 1056 (h 1 11 * 132) 132 1 11 + 1).tmod 8 = (h 1 11 + 1).tmod 8 by rw [e]) ?_
  have f : remB h 1 10 = h 1 10 := by unfold remB; rw [up_ne (by decide), e]
  refine hX 20 [] 28 _ _ _ _ _ _ ?_
  refine And.intro (fun c34 => ?_) (fun c34 => ?_)
  · have c34 : 8 ≤ remB h 1 10 := c34
    rw [f] at c34
    exact rt_mk rfl (by unfold remH; rw [if_neg (Int.not_lt.mpr c34)]; rfl)
  · have c34 : remB h 1 10 < 8 := c34
    rw [f] at c34
    refine And.intro (show inR (remB h 1 10 + 1) from (by rw [f]; exact ⟨by omega, by omega⟩)) ?_
    exact rt_mk rfl (show up (remB h) 1 10 (remB h 1 10 + 1) = remH h by rw [f]; unfold remH; rw [if_pos c34])
theorem CI_of {h h' : HP} (hC : CI h) (e21 : h' 21 = h 21) (e22 : h' 22 = h 22) (e23 : h' 23 = h 23) (e24 : h' 24 = h 24) (e25 : h' 25 = h 25) (e26 : h' 26 = h 26) (e28 : StOK (h' 28)) : CI h' := by
  unfold CI; rw [e21, e22, e23, e24, e25, e26]; exact ⟨hC.1, e28⟩
theorem gD_of {h h' : HP} (e22 : h' 22 = h 22) (e23 : h' 23 = h 23) (e24 : h' 24 = h 24) (e26 : h' 26 = h 26) (e28 : h' 28 = h 28) (s q : Int) : gD h' s q = gD h s q := by unfold gD; rw [e22, e23, e24, e26, e28]
theorem gN_of {h h' : HP} (e25 : h' 25 = h 25) (q : Int) : gN h' q = gN h q := by unfold gN; rw [e25]
theorem failing_ok (hC : CI h) (hn : rd (h 21) 4 3 = (n : Int)) (hns : rd (h 21) 4 0 = (ns : Int)) :
    Ok 171 [vR 1] (LC N) h (fun o Λ' h' => o = .inl (some (vI (fpO h n ns 0 0))) ∧ Λ' = LC N ∧ FrQ h h') := by
  have hn6 : n ≤ 6 := by have := hC.1.2.2.2.1; omega
  have hs6 := hC.1.1
  refine ok_body B_X8_failingPieces rfl (fun X hX => ?_)
  have inner : ∀ (t : Nat), t < ns → ∀ (m q : Nat) (a r : Int) (h1 : HP), q + m = n → 0 ≤ a → a ≤ 900 + q → FrQ h h1 → fpI h t m q a = r →
      (∀ h2, FrQ h h2 → X 23 [vR 1, vI (ns : Int), vI (n : Int), vI r, vI ((t : Int) + 1), vI (n : Int)] [] (LC N) h2 0 0) →
      X 32 [vR 1, vI (ns : Int), vI (n : Int), vI a, vI (t : Int), vI (q : Int)] [] (LC N) h1 0 0 := by
    intro t ht m
    induction m with
    | zero =>
      intro q a r h1 hq ha1 ha2 hF he hgo
      have eq : q = n := by omega
      subst eq
      refine hX 12 [23] 32 _ _ _ _ _ _ ?_
      refine And.intro (fun c35 => ?_) (fun c35 => absurd c35 (by omega))
      refine And.intro ⟨by omega, by omega⟩ ?_
      have e9 : a = r := he
      rw [e9]
      exact hgo h1 hF
    | succ m ih =>
      intro q a r h1 hq ha1 ha2 hF he hgo
      have bb := fpI_bd h t (m + 1) q a
      have e21 : h1 21 = h 21 := hF 21 (by omega)
      have e22 : h1 22 = h 22 := hF 22 (by omega)
      have e23 : h1 23 = h 23 := hF 23 (by omega)
      have e24 : h1 24 = h 24 := hF 24 (by omega)
      have e25 : h1 25 = h 25 := hF 25 (by omega)
      have e26 : h1 26 = h 26 := hF 26 (by omega)
      have e28 : h1 28 = h 28 := hF 28 (by omega)
      have hC1 : CI h1 := CI_of hC e21 e22 e23 e24 e25 e26 (by rw [e28]; exact hC.2)
      have kn := knit31_ok (N := N) (h := h1) (s := (t : Int)) (p := (q : Int)) hC1.1 hC1.2 ⟨by omega, by omega⟩ ⟨by omega, by rw [e21]; omega⟩
      rw [e22, e23, e24, e25, e26, e28] at kn
      have i1 : inR ((q : Int) + 1) := ⟨by omega, by omega⟩
      refine hX 40 [32] 32 _ _ _ _ _ _ ?_
      refine And.intro (fun c35 => absurd c35 (by omega)) (fun c35 => ?_)
      refine Ok_mono (fun o' Λ' h' hpost => ?_) kn
      obtain ⟨rfl, rfl, hI, hF2⟩ := hpost
      have hF3 : FrQ h h' := fun c hc => by rw [hF2 c (by omega)]; exact hF c hc
      have efl : h' 31 8 = fl (gD h t q) (gN h q) := hI.2.2.2.1
      refine And.intro (fun c60 => ?_) (fun c60 => ?_)
      · have c60 : h' 31 8 = 0 := c60
        rw [efl] at c60
        have f0 : flI h t q = 0 := by unfold flI; rw [if_pos c60]
        refine And.intro i1 ?_
        exact ih (q + 1) a r h' (by omega) ha1 (by omega) hF3 (by rw [← he, fpI, f0, Int.add_zero]) hgo
      · have c60 : h' 31 8 ≠ 0 := c60
        rw [efl] at c60
        have f0 : flI h t q = 1 := by unfold flI; rw [if_neg c60]
        refine And.intro ⟨by omega, by omega⟩ ?_
        refine And.intro i1 ?_
        exact ih (q + 1) (a + 1) r h' (by omega) (by omega) (by omega) hF3 (by rw [← he, fpI, f0]) hgo
  have outer : ∀ (m t : Nat) (a : Int) (h1 : HP) (j5 : PV), t + m = ns → 0 ≤ a → a ≤ 6 * t → FrQ h h1 → fpO h n m t a = fpO h n ns 0 0 → X 23 [vR 1, vI (ns : Int), vI (n : Int), vI a, vI (t : Int), j5] [] (LC N) h1 0 0 := by
    intro m
    induction m with
    | zero =>
      intro t a h1 j5 ht ha1 ha2 hF he
      refine hX 8 [] 23 _ _ _ _ _ _ ?_
      refine And.intro (fun c26 => ?_) (fun c26 => absurd c26 (by omega))
      exact ⟨congrArg (fun z => Sum.inl (some (vI z))) he, rfl, hF⟩
    | succ m ih =>
      intro t a h1 j5 ht ha1 ha2 hF he
      have bb := fpI_bd h t n 0 a
      refine hX 12 [32] 23 _ _ _ _ _ _ ?_
      refine And.intro (fun c26 => absurd c26 (by omega)) (fun c26 => ?_)
      refine inner t (by omega) n 0 a _ h1 (by omega) ha1 (by omega) hF rfl (fun h2 hF2 => ?_)
      exact ih (t + 1) _ h2 _ (by omega) (by omega) (by omega) hF2 (by rw [← he, fpO])
  refine hX 20 [23] 0 _ _ _ _ _ _ ?_
  refine Ok_rt tot_ok ?_
  refine Ok_rt tot_ok ?_
  rw [hn, hns]
  exact outer ns 0 0 h _ (by omega) (by omega) (by omega) (FrQ_rf h) rfl
theorem K_setGauge (hC : CI h) (hu : undoOK h) (ha : 5 ≤ a ∧ a ≤ 99) (hb : 5 ≤ b ∧ b ≤ 99) (hc : 1 ≤ c ∧ c ≤ 99) (hS : StOK (gaugeH h a b c 28)) (hn : rd (h 21) 4 3 = (n : Int)) (hns : rd (h 21) 4 0 = (ns : Int)) :
    Ok 154 [vR 1, vI a, vI b, vI c] (LC N) h (fun o Λ' h' => o = .inl (some (vI (fpO (gaugeH h a b c) n ns 0 0))) ∧ Λ' = LC N ∧ FrQ (gaugeH h a b c) h') := by
  have eo : ∀ q, q ≠ 1 → q ≠ 47 → q ≠ 28 → gaugeH h a b c q = h q := fun q q1 q2 q3 => by unfold gaugeH; rw [wrA_cell q3, wrA_cell q3, wrA_cell q3, remH_cell q1 q2]
  have e21 := eo 21 (by decide) (by decide) (by decide)
  have hC2 : CI (gaugeH h a b c) := CI_of hC e21 (eo 22 (by decide) (by decide) (by decide)) (eo 23 (by decide) (by decide) (by decide)) (eo 24 (by decide) (by decide) (by decide)) (eo 25 (by decide) (by decide) (by decide)) (eo 26 (by decide) (by decide) (by decide)) hS
  refine ok_body B_X8_setGauge rfl (fun X hX => ?_)
  refine hX 60 [] 0 _ _ _ _ _ _ ?_
  refine Ok_rt (ckR_ok ha) ?_
  refine Ok_rt (ckR_ok hb) ?_
  refine Ok_rt (ckR_ok hc) ?_
  refine Ok_rt (rem_ok hu) ?_
  refine Ok_rt (setCell_ok (Or.inr (Or.inl rfl))) ?_
  refine Ok_rt (setCell_ok (Or.inr (Or.inl rfl))) ?_
  refine Ok_rt (setCell_ok (Or.inr (Or.inl rfl))) ?_
  refine Ok_mono (fun o' Λ' h' hpost => ?_) (failing_ok (h := gaugeH h a b c) hC2 (by rw [e21]; exact hn) (by rw [e21]; exact hns))
  obtain ⟨rfl, rfl, hF⟩ := hpost
  exact ⟨rfl, rfl, hF⟩
theorem K_setGauge_x (hx : ¬ ((5 ≤ a ∧ a ≤ 99) ∧ (5 ≤ b ∧ b ≤ 99) ∧ 1 ≤ c ∧ c ≤ 99)) : Ok 154 [vR 1, vI a, vI b, vI c] (LC N) h (ex 3 (LC N) h) := by
  refine ok_body B_X8_setGauge rfl (fun X hX => ?_)
  refine hX 60 [] 0 _ _ _ _ _ _ ?_
  by_cases z : 5 ≤ a ∧ a ≤ 99
  · refine Ok_rt (ckR_ok z) ?_
    by_cases w : 5 ≤ b ∧ b ≤ 99
    · refine Ok_rt (ckR_ok w) ?_
      refine Ok_ex (ckR_ex (fun v => hx ⟨z, w, v⟩)) ?_
      exact ⟨rfl, rfl, rfl⟩
    · refine Ok_ex (ckR_ex w) ?_
      exact ⟨rfl, rfl, rfl⟩
  · refine Ok_ex (ckR_ex z) ?_
    exact ⟨rfl, rfl, rfl⟩
theorem K_setValue (hC : CI h) (hu : undoOK h) (hm : isMs h m) (hs : isSz h s) (hx : 0 ≤ x ∧ x ≤ 3000) : Ok 155 [vR 1, vI m, vI s, vI x] (LC N) h (rt (some (vI (cVal (h 28) m s))) (LC N) (wrA (remH h) 28 132 (24 + m * 6 + s) x)) := by
  have pb := hC.1
  obtain ⟨b0, b1, b2, b3, -, -⟩ := pb
  refine ok_body B_X8_setValue rfl (fun X hX => ?_)
  have m1 : -1000 ≤ m ∧ m ≤ 1000 := ⟨by have := hm.1; omega, by have := hm.2; omega⟩
  have s1 : -1000 ≤ s ∧ s ≤ 1000 := ⟨by have := hs.1; omega, by have := hs.2; omega⟩
  have e28 : remH h 28 = h 28 := remH_cell (by decide) (by decide)
  refine hX 60 [] 0 _ _ _ _ _ _ ?_
  refine Ok_rt tot_ok ?_
  refine Ok_rt (ckI_ok hm) ?_
  refine Ok_rt tot_ok ?_
  refine Ok_rt (ckI_ok hs) ?_
  refine Ok_rt (ckR_ok hx) ?_
  refine Ok_rt (rem_ok hu) ?_
  refine Ok_rt (ms_ok m1 s1) ?_
  refine Ok_rt (setMeasured_ok (Or.inr (Or.inl rfl)) m1 s1) ?_
  exact rt_mk (by rw [e28]) rfl

theorem K_setValue_x (hx : ¬ (isMs h m ∧ isSz h s)) : Ok 155 [vR 1, vI m, vI s, vI x] (LC N) h (ex 2 (LC N) h) := by
  refine ok_body B_X8_setValue rfl (fun X hX => ?_)
  refine hX 60 [] 0 _ _ _ _ _ _ ?_
  refine Ok_rt tot_ok ?_
  by_cases z : isMs h m
  · refine Ok_rt (ckI_ok z) ?_
    refine Ok_rt tot_ok ?_
    refine Ok_ex (ckI_ex (fun w => hx ⟨z, w⟩)) ?_
    exact ⟨rfl, rfl, rfl⟩
  · refine Ok_ex (ckI_ex z) ?_
    exact ⟨rfl, rfl, rfl⟩

theorem K_setValue_y (hm : isMs h m) (hs : isSz h s) (hx : ¬ (0 ≤ x ∧ x ≤ 3000)) : Ok 155 [vR 1, vI m, vI s, vI x] (LC N) h (ex 3 (LC N) h) := by
  refine ok_body B_X8_setValue rfl (fun X hX => ?_)
  refine hX 60 [] 0 _ _ _ _ _ _ ?_
  refine Ok_rt tot_ok ?_
  refine Ok_rt (ckI_ok hm) ?_
  refine Ok_rt tot_ok ?_
  refine Ok_rt (ckI_ok hs) ?_
  refine Ok_ex (ckR_ex hx) ?_
  exact ⟨rfl, rfl, rfl⟩

theorem K_setEase (hC : CI h) (hu : undoOK h) (hp : isPc h p) (hk : isPa h p k) (hx : -999 ≤ x ∧ x ≤ 999) (hw : cF (h 26) p k 2 ≠ -1) : Ok 157 [vR 1, vI p, vI k, vI x] (LC N) h (rt (some (vI (rd (h 28) 132 (72 + p * 10 + k)))) (LC N) (wrA (remH h) 28 132 (72 + p * 10 + k) x)) := by
  have pb := hC.1
  obtain ⟨b0, b1, b2, b3, -, -⟩ := pb
  refine ok_body B_X8_setEase rfl (fun X hX => ?_)
  have hn10 := (hC.1.2.2.2.2.2 p hp.1 hp.2).1
  have p1 : -1000 ≤ p ∧ p ≤ 1000 := ⟨by have := hp.1; omega, by have := hp.2; omega⟩
  have k1 : -1000 ≤ k ∧ k ≤ 1000 := ⟨by have := hk.1; omega, by have := hk.2; omega⟩
  have e28 : remH h 28 = h 28 := remH_cell (by decide) (by decide)
  refine hX 60 [] 0 _ _ _ _ _ _ ?_
  refine Ok_rt (ckPart_ok hp hk) ?_
  refine Ok_rt (ckR_ok hx) ?_
  refine Ok_rt (fct_ok p1 k1 (by decide)) ?_
  refine And.intro (fun c27 => ?_) (fun c27 => absurd c27 hw)
  refine Ok_rt (rem_ok hu) ?_
  refine Ok_rt (ese_ok p1 k1) ?_
  refine Ok_rt (setEaseOf_ok (Or.inr (Or.inl rfl)) p1 k1) ?_
  exact rt_mk (by rw [e28]) rfl

theorem K_setEase_w (hC : CI h) (hp : isPc h p) (hk : isPa h p k) (hx : -999 ≤ x ∧ x ≤ 999) (hw : cF (h 26) p k 2 = -1) : Ok 157 [vR 1, vI p, vI k, vI x] (LC N) h (ex 1 (LC N) h) := by
  have pb := hC.1
  obtain ⟨b0, b1, b2, b3, -, -⟩ := pb
  refine ok_body B_X8_setEase rfl (fun X hX => ?_)
  have hn10 := (hC.1.2.2.2.2.2 p hp.1 hp.2).1
  have p1 : -1000 ≤ p ∧ p ≤ 1000 := ⟨by have := hp.1; omega, by have := hp.2; omega⟩
  have k1 : -1000 ≤ k ∧ k ≤ 1000 := ⟨by have := hk.1; omega, by have := hk.2; omega⟩
  refine hX 60 [] 0 _ _ _ _ _ _ ?_
  refine Ok_rt (ckPart_ok hp hk) ?_
  refine Ok_rt (ckR_ok hx) ?_
  refine Ok_rt (fct_ok p1 k1 (by decide)) ?_
  refine And.intro (fun c27 => absurd hw c27) (fun c27 => ⟨rfl, rfl, rfl⟩)

theorem K_setEase_x (hx : ¬ (isPc h p ∧ isPa h p k)) : Ok 157 [vR 1, vI p, vI k, vI x] (LC N) h (ex 2 (LC N) h) := by
  refine ok_body B_X8_setEase rfl (fun X hX => ?_)
  refine hX 60 [] 0 _ _ _ _ _ _ ?_
  refine Ok_ex (ckPart_ex hx) ?_
  exact ⟨rfl, rfl, rfl⟩

theorem K_setEase_y (hp : isPc h p) (hk : isPa h p k) (hx : ¬ (-999 ≤ x ∧ x ≤ 999)) : Ok 157 [vR 1, vI p, vI k, vI x] (LC N) h (ex 3 (LC N) h) := by
  refine ok_body B_X8_setEase rfl (fun X hX => ?_)
  refine hX 60 [] 0 _ _ _ _ _ _ ?_
  refine Ok_rt (ckPart_ok hp hk) ?_
  refine Ok_ex (ckR_ex hx) ?_
  exact ⟨rfl, rfl, rfl⟩

theorem K_addLot (hC : CI h) (hu : undoOK h) (hc : 0 ≤ c ∧ c ≤ 3) (hm : 1 ≤ m ∧ m ≤ 9999) (hl : rd (h 28) 132 3 < 10) : Ok 158 [vR 1, vI c, vI m] (LC N) h (rt (some (vI (rd (h 28) 132 3))) (LC N) (addLH h c m)) := by
  refine ok_body B_X8_addLot rfl (fun X hX => ?_)
  have hl3 := hC.2.2.2.2.1
  have e28 : remH h 28 = h 28 := remH_cell (by decide) (by decide)
  have e3 : rdA (remH h) (27 + 1) 132 3 = rd (h 28) 132 3 := by rw [← e28]; rfl
  have ap := appendLot_ok (N := N) (h := remH h) (i := c) (x := m) (o := 27) (Or.inr (Or.inl rfl)) (by rw [e3]; omega)
  rw [e3] at ap
  have el : rd (addLH h c m 28) 132 3 = rd (h 28) 132 3 + 1 := by
    unfold addLH; rw [← rd_A, rdA_wrA, if_pos ⟨by decide, by decide, rfl⟩]
  refine hX 60 [] 0 _ _ _ _ _ _ ?_
  refine Ok_rt (ckR_ok hc) ?_
  refine Ok_rt (ckR_ok hm) ?_
  refine Ok_rt lts_ok ?_
  refine And.intro (fun c23 => ?_) (fun c23 => absurd c23 (by omega))
  refine Ok_rt (rem_ok hu) ?_
  refine Ok_rt ap ?_
  refine Ok_rt (lts_ok (h := addLH h c m)) ?_
  rw [el]
  refine And.intro ⟨by omega, by omega⟩ ?_
  exact rt_mk (congrArg (fun z => some (vI z)) (by omega)) rfl

theorem K_addLot_x (hx : ¬ ((0 ≤ c ∧ c ≤ 3) ∧ 1 ≤ m ∧ m ≤ 9999)) : Ok 158 [vR 1, vI c, vI m] (LC N) h (ex 3 (LC N) h) := by
  refine ok_body B_X8_addLot rfl (fun X hX => ?_)
  refine hX 60 [] 0 _ _ _ _ _ _ ?_
  by_cases z : 0 ≤ c ∧ c ≤ 3
  · refine Ok_rt (ckR_ok z) ?_
    refine Ok_ex (ckR_ex (fun v => hx ⟨z, v⟩)) ?_
    exact ⟨rfl, rfl, rfl⟩
  · refine Ok_ex (ckR_ex z) ?_
    exact ⟨rfl, rfl, rfl⟩

theorem K_addLot_y (hc : 0 ≤ c ∧ c ≤ 3) (hm : 1 ≤ m ∧ m ≤ 9999) (hl : ¬ rd (h 28) 132 3 < 10) : Ok 158 [vR 1, vI c, vI m] (LC N) h (ex 1 (LC N) h) := by
  refine ok_body B_X8_addLot rfl (fun X hX => ?_)
  refine hX 60 [] 0 _ _ _ _ _ _ ?_
  refine Ok_rt (ckR_ok hc) ?_
  refine Ok_rt (ckR_ok hm) ?_
  refine Ok_rt lts_ok ?_
  refine And.intro (fun c23 => absurd c23 hl) (fun c23 => ⟨rfl, rfl, rfl⟩)

theorem K_removeLot (hC : CI h) (hu : undoOK h) (hl : isLt h l) : Ok 159 [vR 1, vI l] (LC N) h (rt (some (vI (rd (h 28) 132 (14 + l)))) (LC N) (wrA (dropS (rd (h 28) 132 3 - 1 - l).toNat l (remH h)) 28 132 3 (rd (h 28) 132 3 - 1))) := by
  refine ok_body B_X8_removeLot rfl (fun X hX => ?_)
  have hl1 := hl.1
  have hl2 := hl.2
  have hl3 := hC.2.2.2.2.1
  have e28 : remH h 28 = h 28 := remH_cell (by decide) (by decide)
  have e3 : rdA (remH h) (27 + 1) 132 3 = rd (h 28) 132 3 := by rw [← e28]; rfl
  refine hX 60 [] 0 _ _ _ _ _ _ ?_
  refine Ok_rt lts_ok ?_
  refine Ok_rt (ckI_ok hl) ?_
  refine Ok_rt (rem_ok hu) ?_
  refine Ok_rt (ltm_ok ⟨by omega, by omega⟩) ?_
  refine Ok_rt (dropLot_ok e3 (by omega) ⟨by omega, by omega⟩) ?_
  exact rt_mk (by rw [e28]) rfl

theorem K_removeLot_x (hx : ¬ isLt h l) : Ok 159 [vR 1, vI l] (LC N) h (ex 2 (LC N) h) := by
  refine ok_body B_X8_removeLot rfl (fun X hX => ?_)
  refine hX 60 [] 0 _ _ _ _ _ _ ?_
  refine Ok_rt lts_ok ?_
  refine Ok_ex (ckI_ex hx) ?_
  exact ⟨rfl, rfl, rfl⟩

theorem K_undo (hu : undoOK h) (h1 : 1 ≤ h 1 10) : Ok 160 [vR 1] (LC N) h (rt (some (vI (h 1 10 - 1))) (LC N) (undoH h)) := by
  refine ok_body B_X8_undo rfl (fun X hX => ?_)
  obtain ⟨⟨u1, u2⟩, u3, u4⟩ := hu
  have tb := tm_bd (x := h 1 11 + 8 - 1) (y := 8) (by omega) (by omega)
  have f : up h 1 11 (undoT h) 1 10 = h 1 10 := up_ne (by decide)
  have g : up (up h 1 11 (undoT h)) 1 10 (h 1 10 - 1) 1 11 = undoT h := by rw [up_ne (by decide), up_same]
  refine hX 60 [32] 0 _ _ _ _ _ _ ?_
  refine And.intro (fun c5 => ?_) (fun c5 => absurd c5 (by omega))
  refine And.intro ⟨by omega, by omega⟩ ?_
  refine And.intro ⟨by omega, by omega⟩ ?_
  refine And.intro (by decide) ?_
  refine hX 60 [42] 32 _ _ _ _ _ _ ?_
  refine And.intro (show inR (up h 1 11 (undoT h) 1 10 - 1) from (by rw [f]; exact ⟨by omega, by omega⟩)) ?_
  refine pI (P := fun z => X 42 [vR 1] [] (LC N) (up (up h 1 11 (undoT h)) 1 10 z) 0 0) (show up h 1 11 (undoT h) 1 10 - 1 = h 1 10 - 1 by rw [f]) ?_
  have br := bring_ok (N := N) (h := up (up h 1 11 (undoT h)) 1 10 (h 1 10 - 1)) (i := undoT h) (b := 46) (n := 1056) (Or.inl ⟨rfl, rfl⟩) ⟨tb.1, by have : undoT h < 8 := tb.2.1; omega⟩
  refine hX 60 [] 42 _ _ _ _ _ _ ?_
  refine pI (P := fun z => Ok 98 [vR 46, vI z, vR 27] (LC N) (up (up h 1 11 (undoT h)) 1 10 (h 1 10 - 1)) _) g ?_
  refine Ok_rt br ?_
  exact rt_mk (congrArg (fun z => some (vI z)) (show cpA (up (up h 1 11 (undoT h)) 1 10 (h 1 10 - 1)) (46 + 1) 1056 (undoT h * 132) 28 132 0 132 1 10 = h 1 10 - 1 by rw [cpA_cell (by decide), up_same])) rfl

theorem K_undo_x (h1 : ¬ 1 ≤ h 1 10) : Ok 160 [vR 1] (LC N) h (ex 1 (LC N) h) := by
  refine ok_body B_X8_undo rfl (fun X hX => ?_)
  refine hX 60 [] 0 _ _ _ _ _ _ ?_
  refine And.intro (fun c5 => absurd c5 h1) (fun c5 => ⟨rfl, rfl, rfl⟩)

theorem K_save (hs : 0 ≤ s ∧ s < 2) : Ok 161 [vR 1, vI s] (LC N) h (rt none (LC N) (saveH h s)) := by
  refine ok_body B_X8_save rfl (fun X hX => ?_)
  refine hX 60 [] 0 _ _ _ _ _ _ ?_
  refine Ok_rt (ckI_ok hs) ?_
  refine Ok_rt (keep_ok (Or.inr ⟨rfl, rfl⟩) ⟨by omega, by omega⟩) ?_
  exact rt_mk rfl (show up (cpA h 28 132 0 (48 + 1) 264 (s * 132) 132) 1 12 (iorI (cpA h 28 132 0 (48 + 1) 264 (s * 132) 132 1 12) (ishlI 1 s)) = saveH h s by rw [cpA_cell (by decide)]; rfl)

theorem K_save_x (hs : ¬ (0 ≤ s ∧ s < 2)) : Ok 161 [vR 1, vI s] (LC N) h (ex 2 (LC N) h) := by
  refine ok_body B_X8_save rfl (fun X hX => ?_)
  refine hX 60 [] 0 _ _ _ _ _ _ ?_
  refine Ok_ex (ckI_ex hs) ?_
  exact ⟨rfl, rfl, rfl⟩

def isSv (h : HP) (s : Int) : Prop := iandI (h 1 12) (ishlI 1 s) ≠ 0
theorem ckSv_ok (hs : 0 ≤ s ∧ s < 2) (hv : isSv h s) : Ok 167 [vR 1, vI s] (LC N) h (rt none (LC N) h) := by
  refine ok_body B_X8_checkSaved rfl (fun X hX => ?_)
  refine hX 60 [] 0 _ _ _ _ _ _ ?_
  refine Ok_rt (ckI_ok hs) ?_
  refine And.intro (fun c13 => ?_) (fun c13 => absurd c13 hv)
  exact rt_mk rfl rfl

theorem ckSv_ex (hs : 0 ≤ s ∧ s < 2) (hv : ¬ isSv h s) : Ok 167 [vR 1, vI s] (LC N) h (ex 4 (LC N) h) := by
  refine ok_body B_X8_checkSaved rfl (fun X hX => ?_)
  refine hX 60 [] 0 _ _ _ _ _ _ ?_
  refine Ok_rt (ckI_ok hs) ?_
  refine And.intro (fun c13 => absurd c13 hv) (fun c13 => ⟨rfl, rfl, rfl⟩)

theorem ckSv_ey (hs : ¬ (0 ≤ s ∧ s < 2)) : Ok 167 [vR 1, vI s] (LC N) h (ex 2 (LC N) h) := by
  refine ok_body B_X8_checkSaved rfl (fun X hX => ?_)
  refine hX 60 [] 0 _ _ _ _ _ _ ?_
  refine Ok_ex (ckI_ex hs) ?_
  exact ⟨rfl, rfl, rfl⟩

theorem K_restore (hs : 0 ≤ s ∧ s < 2) (hv : isSv h s) : Ok 162 [vR 1, vI s] (LC N) h (rt none (LC N) (restH h s)) := by
  refine ok_body B_X8_restore rfl (fun X hX => ?_)
  refine hX 60 [] 0 _ _ _ _ _ _ ?_
  refine Ok_rt (ckSv_ok hs hv) ?_
  refine Ok_rt (bring_ok (Or.inr ⟨rfl, rfl⟩) ⟨by omega, by omega⟩) ?_
  exact rt_mk rfl rfl

theorem K_restore_n (hs : 0 ≤ s ∧ s < 2) (hv : ¬ isSv h s) : Ok 162 [vR 1, vI s] (LC N) h (ex 4 (LC N) h) := by
  refine ok_body B_X8_restore rfl (fun X hX => ?_)
  refine hX 60 [] 0 _ _ _ _ _ _ ?_
  refine Ok_ex (ckSv_ex hs hv) ?_
  exact ⟨rfl, rfl, rfl⟩

theorem K_restore_x (hs : ¬ (0 ≤ s ∧ s < 2)) : Ok 162 [vR 1, vI s] (LC N) h (ex 2 (LC N) h) := by
  refine ok_body B_X8_restore rfl (fun X hX => ?_)
  refine hX 60 [] 0 _ _ _ _ _ _ ?_
  refine Ok_ex (ckSv_ey hs) ?_
  exact ⟨rfl, rfl, rfl⟩

theorem K_differences_n (hs : 0 ≤ s ∧ s < 2) (hv : ¬ isSv h s) : Ok 163 [vR 1, vI s] (LC N) h (ex 4 (LC N) h) := by
  refine ok_body B_X8_differences rfl (fun X hX => ?_)
  refine hX 60 [] 0 _ _ _ _ _ _ ?_
  refine Ok_ex (ckSv_ex hs hv) ?_
  exact ⟨rfl, rfl, rfl⟩

theorem K_differences_x (hs : ¬ (0 ≤ s ∧ s < 2)) : Ok 163 [vR 1, vI s] (LC N) h (ex 2 (LC N) h) := by
  refine ok_body B_X8_differences rfl (fun X hX => ?_)
  refine hX 60 [] 0 _ _ _ _ _ _ ?_
  refine Ok_ex (ckSv_ey hs) ?_
  exact ⟨rfl, rfl, rfl⟩

theorem K_grade (hC : CI h) (hu : undoOK h) (hm : isMs h m) (hx : 0 ≤ x ∧ x ≤ 3000) (hns : rd (h 21) 4 0 = (ns : Int)) (hx2 : 0 ≤ x + y * ((ns : Int) - 1) ∧ x + y * ((ns : Int) - 1) ≤ 3000) (hy : inR y) :
    Ok 156 [vR 1, vI m, vI x, vI y] (LC N) h (rt (some (vI (x + y * ((ns : Int) - 1)))) (LC N) (gradeH m x y ns 0 (remH h))) := by
  have pb := hC.1
  obtain ⟨b0, b1, b2, b3, -, -⟩ := pb
  have m1 : -1000 ≤ m ∧ m ≤ 1000 := ⟨by have := hm.1; omega, by have := hm.2; omega⟩
  have hcase : ns = 1 ∨ ns = 2 ∨ ns = 3 ∨ ns = 4 ∨ ns = 5 ∨ ns = 6 := by omega
  have lb : inRL (y * ((ns : Int) - 1)) := by rcases hcase with rfl | rfl | rfl | rfl | rfl | rfl <;> exact ⟨by omega, by omega⟩
  have tb : ∀ t : Int, 0 ≤ t → t < ns → -20000 ≤ y * t ∧ y * t ≤ 20000 := by
    intro t t0 t1
    have ht : t = 0 ∨ t = 1 ∨ t = 2 ∨ t = 3 ∨ t = 4 ∨ t = 5 := by omega
    rcases hcase with rfl | rfl | rfl | rfl | rfl | rfl <;> rcases ht with rfl | rfl | rfl | rfl | rfl | rfl <;> omega
  refine ok_body B_X8_grade rfl (fun X hX => ?_)
  have loop : ∀ (q : Nat) (t : Int) (h1 : HP), 0 ≤ t → t + (q : Int) = ns → gradeH m x y q t h1 = gradeH m x y ns 0 (remH h) → X 74 [vR 1, vI m, vI x, vI y, vI (ns : Int), vL (x + y * ((ns : Int) - 1)), vU, vI t] [] (LC N) h1 2 12 := by
    intro q
    induction q with
    | zero =>
      intro t h1 h0 ht he
      refine hX 12 [] 74 _ _ _ _ _ _ ?_
      refine And.intro (fun c78 => ?_) (fun c78 => absurd c78 (by omega))
      have el : l2iI (x + y * ((ns : Int) - 1)) = x + y * ((ns : Int) - 1) := by
        unfold l2iI
        rw [Int64.toInt_toInt32, l_to ⟨by omega, by omega⟩]
        exact bm32 ⟨by omega, by omega⟩
      exact rt_mk (congrArg (fun z => some (vI z)) el) he
    | succ q ih =>
      intro t h1 h0 ht he
      have tt := tb t h0 (by omega)
      refine hX 30 [74] 74 _ _ _ _ _ _ ?_
      refine And.intro (fun c78 => absurd c78 (by omega)) (fun c78 => ?_)
      refine And.intro ⟨by omega, by omega⟩ ?_
      refine And.intro ⟨by omega, by omega⟩ ?_
      refine Ok_rt (setMeasured_ok (Or.inr (Or.inl rfl)) m1 ⟨by omega, by omega⟩) ?_
      refine And.intro ⟨by omega, by omega⟩ ?_
      exact ih (t + 1) _ (by omega) (by omega) he
  refine hX 60 [74] 0 _ _ _ _ _ _ ?_
  refine Ok_rt tot_ok ?_
  refine Ok_rt (ckI_ok hm) ?_
  refine Ok_rt tot_ok ?_
  rw [hns]
  refine And.intro ⟨by omega, by omega⟩ ?_
  refine And.intro lb ?_
  refine And.intro ⟨by omega, by omega⟩ ?_
  refine Ok_rt (ckR_ok hx) ?_
  refine And.intro (fun c47 => absurd c47 (by omega)) (fun c47 => ?_)
  refine And.intro (fun c56 => ?_) (fun c56 => absurd c56 (by omega))
  refine Ok_rt (rem_ok hu) ?_
  exact loop ns 0 _ (by omega) (by omega) rfl
theorem K_grade_y (hC : CI h) (hm : isMs h m) (hns : rd (h 21) 4 0 = (ns : Int)) (hx : ¬ ((0 ≤ x ∧ x ≤ 3000) ∧ 0 ≤ x + y * ((ns : Int) - 1) ∧ x + y * ((ns : Int) - 1) ≤ 3000)) (hy : inR y) (hxr : inR x) :
    Ok 156 [vR 1, vI m, vI x, vI y] (LC N) h (ex 3 (LC N) h) := by
  have pb := hC.1
  obtain ⟨b0, b1, b2, b3, -, -⟩ := pb
  have hcase : ns = 1 ∨ ns = 2 ∨ ns = 3 ∨ ns = 4 ∨ ns = 5 ∨ ns = 6 := by omega
  have lb : inRL (y * ((ns : Int) - 1)) ∧ inRL (x + y * ((ns : Int) - 1)) := by rcases hcase with rfl | rfl | rfl | rfl | rfl | rfl <;> exact ⟨⟨by omega, by omega⟩, ⟨by omega, by omega⟩⟩
  refine ok_body B_X8_grade rfl (fun X hX => ?_)
  refine hX 60 [74] 0 _ _ _ _ _ _ ?_
  refine Ok_rt tot_ok ?_
  refine Ok_rt (ckI_ok hm) ?_
  refine Ok_rt tot_ok ?_
  rw [hns]
  refine And.intro ⟨by omega, by omega⟩ ?_
  refine And.intro lb.1 ?_
  refine And.intro lb.2 ?_
  by_cases z : 0 ≤ x ∧ x ≤ 3000
  · refine Ok_rt (ckR_ok z) ?_
    refine And.intro (fun c47 => ⟨rfl, rfl, rfl⟩) (fun c47 => ?_)
    refine And.intro (fun c56 => absurd ⟨z, c47, c56⟩ hx) (fun c56 => ⟨rfl, rfl, rfl⟩)
  · refine Ok_ex (ckR_ex z) ?_
    exact ⟨rfl, rfl, rfl⟩
theorem K_grade_x (hx : ¬ isMs h m) : Ok 156 [vR 1, vI m, vI x, vI y] (LC N) h (ex 2 (LC N) h) := by
  refine ok_body B_X8_grade rfl (fun X hX => ?_)
  refine hX 60 [] 0 _ _ _ _ _ _ ?_
  refine Ok_rt tot_ok ?_
  refine Ok_ex (ckI_ex hx) ?_
  exact ⟨rfl, rfl, rfl⟩
end CHANGE
