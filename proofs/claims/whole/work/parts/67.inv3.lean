/-! ===== INV behind the six changes ===== -/
theorem INV_ch {M : List CT} {h h1 h2 : HP} {pm : Nat} {v : Int} {new : Nat → Int} {o : Out} {Λ' : List CT} (H : INV h) (hpm : h 50 15 = (pm : Int)) (g1 : ∀ c, c ≠ 28 → (c < 31 ∨ 45 < c) → h1 c = remH h c) (S1 : StOK (h1 28)) (P : chP M h1 pm v new o Λ' h2) (S2 : StC new (h1 28)) : INV h2 := by
  obtain ⟨-, -, hk, K, g2, g3, g4⟩ := P
  exact INV_chg H hpm g1 S1 K g2 g3 (StC_cg (rd_cg g4) (fun _ => rfl) S2)
theorem remH_28 {h : HP} : remH h 28 = h 28 := remH_cell (by decide) (by decide)
theorem remH_57 {h : HP} : remH h 57 = h 57 := remH_cell (by decide) (by decide)
section INV3
variable {M : List CT} {h h1 h2 : HP} {pm : Nat} {v m s p k x y a b c : Int} {o : Out} {Λ' : List CT}
theorem INV_setValue (H : INV h) (hpm : h 50 15 = (pm : Int)) (hm : isMs h m) (hs : isSz h s) (hx : 0 ≤ x ∧ x ≤ 3000) (e1 : h1 = wrA (remH h) 28 132 (24 + m * 6 + s) x) (P : chP M h1 pm v (fun i => if i = (4 + 6 * m + s).toNat then x else h1 57 i) o Λ' h2) : INV h2 := by
  have a := H.1.1
  have bm := a.1.2.1
  have bs := a.1.1
  unfold isMs at hm
  unfold isSz at hs
  obtain ⟨m', rfl⟩ : ∃ m' : Nat, m = (m' : Int) := ⟨m.toNat, by omega⟩
  obtain ⟨s', rfl⟩ : ∃ s' : Nat, s = (s' : Int) := ⟨s.toNat, by omega⟩
  have e28 : h1 28 = upf (h 28) (24 + 6 * m' + s') x := by
    rw [e1, wr_upf (by omega) (by omega), remH_28, show (24 + (m' : Int) * 6 + (s' : Int)).toNat = 24 + 6 * m' + s' by omega]
  have e57 : (fun i => if i = (4 + 6 * (m' : Int) + (s' : Int)).toNat then x else h1 57 i) = upf (h 57) (4 + 6 * m' + s') x := by
    rw [show (4 + 6 * (m' : Int) + (s' : Int)).toNat = 4 + 6 * m' + s' by omega, e1, wrA_cell (by decide), remH_57]
    rfl
  refine INV_ch H hpm (fun c c1 _ => by rw [e1, wrA_cell c1]) (by rw [e28]; exact StOK_val a.2 (by omega) (by omega) hx) P ?_
  rw [e57, e28]
  exact StC_val H.1.2.1.2.2.2 a.2 (by omega) (by omega)
theorem INV_setEase (H : INV h) (hpm : h 50 15 = (pm : Int)) (hp : isPc h p) (hk : isPa h p k) (hx : -999 ≤ x ∧ x ≤ 999) (e1 : h1 = wrA (remH h) 28 132 (72 + p * 10 + k) x) (P : chP M h1 pm v (fun i => if i = (52 + 10 * p + k).toNat then x else h1 57 i) o Λ' h2) : INV h2 := by
  have a := H.1.1
  have bp := a.1.2.2.2.1
  have bk := (a.1.2.2.2.2.2 p hp.1 hp.2).1
  unfold isPc at hp
  unfold isPa at hk
  obtain ⟨p', rfl⟩ : ∃ p' : Nat, p = (p' : Int) := ⟨p.toNat, by omega⟩
  obtain ⟨k', rfl⟩ : ∃ k' : Nat, k = (k' : Int) := ⟨k.toNat, by omega⟩
  have e28 : h1 28 = upf (h 28) (72 + 10 * p' + k') x := by
    rw [e1, wr_upf (by omega) (by omega), remH_28, show (72 + (p' : Int) * 10 + (k' : Int)).toNat = 72 + 10 * p' + k' by omega]
  have e57 : (fun i => if i = (52 + 10 * (p' : Int) + (k' : Int)).toNat then x else h1 57 i) = upf (h 57) (52 + 10 * p' + k') x := by
    rw [show (52 + 10 * (p' : Int) + (k' : Int)).toNat = 52 + 10 * p' + k' by omega, e1, wrA_cell (by decide), remH_57]
    rfl
  refine INV_ch H hpm (fun c c1 _ => by rw [e1, wrA_cell c1]) (by rw [e28]; exact StOK_ease a.2 (by omega) (by omega) hx) P ?_
  rw [e57, e28]
  exact StC_ease H.1.2.1.2.2.2 a.2 (by omega) (by omega)
theorem gauge_28 : gaugeH h a b c 28 = upf (upf (upf (h 28) 0 a) 1 b) 2 c := by
  unfold gaugeH
  rw [wr_upf (by omega) (by omega), wr_upf (by omega) (by omega), wr_upf (by omega) (by omega), remH_28]
  rfl
theorem gauge_57 {f : Nat → Int} : (fun i => if i = 2 then c else if i = 1 then b else if i = 0 then a else f i) = upf (upf (upf f 0 a) 1 b) 2 c := rfl
/-- what m_setGauge wants of the class's new state -/
theorem gauge_S (H : INV h) : StC (fun i => if i = 2 then c else if i = 1 then b else if i = 0 then a else h 57 i) (gaugeH h a b c 28) := by
  rw [gauge_57, gauge_28]
  exact StC_gauge H.1.2.1.2.2.2 H.1.1.2
theorem gauge_SO (H : INV h) (ha : 5 ≤ a ∧ a ≤ 99) (hb : 5 ≤ b ∧ b ≤ 99) (hc : 1 ≤ c ∧ c ≤ 99) : StOK (gaugeH h a b c 28) := by
  rw [gauge_28]
  exact StOK_gauge H.1.1.2 ha hb hc
theorem INV_setGauge (H : INV h) (hpm : h 50 15 = (pm : Int)) (ha : 5 ≤ a ∧ a ≤ 99) (hb : 5 ≤ b ∧ b ≤ 99) (hc : 1 ≤ c ∧ c ≤ 99) (e1 : FrQ (gaugeH h a b c) h1) (P : chP M h1 pm v (fun i => if i = 2 then c else if i = 1 then b else if i = 0 then a else h1 57 i) o Λ' h2) : INV h2 := by
  have e28 : h1 28 = gaugeH h a b c 28 := e1 28 (by decide)
  have e57 : h1 57 = h 57 := by rw [e1 57 (by decide)]; unfold gaugeH; rw [wrA_cell (by decide), wrA_cell (by decide), wrA_cell (by decide), remH_57]
  refine INV_ch H hpm (fun q q1 q2 => by rw [e1 q q2]; unfold gaugeH; rw [wrA_cell q1, wrA_cell q1, wrA_cell q1]) (by rw [e28]; exact gauge_SO H ha hb hc) P ?_
  rw [e57, e28]
  exact gauge_S H
theorem INV_addLot {l : Nat} (H : INV h) (hpm : h 50 15 = (pm : Int)) (hc : 0 ≤ c ∧ c ≤ 3) (hm : 1 ≤ m ∧ m ≤ 9999) (hl : rd (h 28) 132 3 = (l : Int)) (hl2 : l < 10) (e1 : h1 = addLH h c m) (P : chP M h1 pm v (fun i => if i = 3 then (l : Int) + 1 else if i = 112 + 2 * l + 1 then m else if i = 112 + 2 * l then c else h1 57 i) o Λ' h2) : INV h2 := by
  have e28 : h1 28 = upf (upf (upf (h 28) (4 + l) c) (14 + l) m) 3 ((l : Int) + 1) := by
    rw [e1]
    unfold addLH
    rw [hl, wr_upf (by omega) (by omega), wr_upf (by omega) (by omega), wr_upf (by omega) (by omega), remH_28, show (4 + (l : Int)).toNat = 4 + l by omega, show (14 + (l : Int)).toNat = 14 + l by omega]
    rfl
  have e57 : h1 57 = h 57 := by rw [e1]; unfold addLH; rw [wrA_cell (by decide), wrA_cell (by decide), wrA_cell (by decide), remH_57]
  refine INV_ch H hpm (fun q q1 _ => by rw [e1]; unfold addLH; rw [wrA_cell q1, wrA_cell q1, wrA_cell q1]) (by rw [e28]; exact StOK_add H.1.1.2 hl hl2 hc ⟨by omega, hm.2⟩) P ?_
  rw [e57, e28]
  exact StC_add H.1.2.1.2.2.2 hl hl2
/-- what dropLot leaves of the state -/
theorem dropS_spec : ∀ (f k : Nat) (g : HP), k + f ≤ 9 → (∀ q, q ≠ 28 → dropS f (k : Int) g q = g q) ∧ ∀ i : Nat, dropS f (k : Int) g 28 i = if (4 + k ≤ i ∧ i < 4 + k + f) ∨ (14 + k ≤ i ∧ i < 14 + k + f) then g 28 (i + 1) else g 28 i
  | 0, k, g, _ => ⟨fun _ _ => rfl, fun i => by rw [if_neg (by omega)]; rfl⟩
  | f + 1, k, g, hk => by
    obtain ⟨a, b⟩ := dropS_spec f (k + 1) (wrA (wrA g 28 132 (4 + (k : Int)) (rdA g 28 132 (4 + ((k : Int) + 1)))) 28 132 (14 + (k : Int)) (rdA (wrA g 28 132 (4 + (k : Int)) (rdA g 28 132 (4 + ((k : Int) + 1)))) 28 132 (14 + ((k : Int) + 1)))) (by omega)
    refine ⟨fun q hq => ?_, fun i => ?_⟩
    · refine (a q hq).trans ?_
      rw [wrA_cell hq, wrA_cell hq]
    · refine (b i).trans ?_
      have r1 : rdA g 28 132 (4 + ((k : Int) + 1)) = g 28 (4 + k + 1) := by rw [rdA_in (by omega) (by omega), show (4 + ((k : Int) + 1)).toNat = 4 + k + 1 by omega]
      have w1 : wrA g 28 132 (4 + (k : Int)) (g 28 (4 + k + 1)) 28 = upf (g 28) (4 + k) (g 28 (4 + k + 1)) := by rw [wr_upf (by omega) (by omega), show (4 + (k : Int)).toNat = 4 + k by omega]
      have r2 : rdA (wrA g 28 132 (4 + (k : Int)) (g 28 (4 + k + 1))) 28 132 (14 + ((k : Int) + 1)) = g 28 (14 + k + 1) := by
        rw [rdA_in (by omega) (by omega), w1, show (14 + ((k : Int) + 1)).toNat = 14 + k + 1 by omega]
        unfold upf
        rw [if_neg (by omega)]
      have w2 : wrA (wrA g 28 132 (4 + (k : Int)) (g 28 (4 + k + 1))) 28 132 (14 + (k : Int)) (g 28 (14 + k + 1)) 28 = upf (upf (g 28) (4 + k) (g 28 (4 + k + 1))) (14 + k) (g 28 (14 + k + 1)) := by rw [wr_upf (by omega) (by omega), w1, show (14 + (k : Int)).toNat = 14 + k by omega]
      rw [r1, r2, w2]
      unfold upf
      by_cases z1 : i = 14 + k
      · rw [if_neg (by omega), if_pos z1, if_pos (by omega), z1]
      · by_cases z2 : i = 4 + k
        · rw [if_neg (by omega), if_neg z1, if_pos z2, if_pos (by omega), z2]
        · by_cases z3 : (4 + (k + 1) ≤ i ∧ i < 4 + (k + 1) + f) ∨ (14 + (k + 1) ≤ i ∧ i < 14 + (k + 1) + f)
          · rw [if_pos z3, if_neg (by omega), if_neg (by omega), if_pos (by omega)]
          · rw [if_neg z3, if_neg z1, if_neg z2, if_neg (by omega)]
theorem INV_removeLot {l t : Nat} (H : INV h) (hpm : h 50 15 = (pm : Int)) (hl : rd (h 28) 132 3 = (l : Int)) (ht : t < l) (e1 : h1 = wrA (dropS (rd (h 28) 132 3 - 1 - (t : Int)).toNat (t : Int) (remH h)) 28 132 3 (rd (h 28) 132 3 - 1)) (P : chP M h1 pm v (fun i => if i = 3 then (l : Int) - 1 else if 112 + 2 * t ≤ i ∧ i < 130 then h1 57 (i + 2) else h1 57 i) o Λ' h2) : INV h2 := by
  have S := H.1.1.2
  have C := H.1.2.1.2.2.2
  have l10 := S.2.2.2.1
  obtain ⟨d1, d2⟩ := dropS_spec (l - 1 - t) t (remH h) (by omega)
  rw [hl, show ((l : Int) - 1 - (t : Int)).toNat = l - 1 - t by omega] at e1
  have R : ∀ j : Int, rd (h1 28) 132 j = if j = 3 then (l : Int) - 1 else if (4 + (t : Int) ≤ j ∧ j < 4 + (l : Int) - 1) ∨ (14 + (t : Int) ≤ j ∧ j < 14 + (l : Int) - 1) then rd (h 28) 132 (j + 1) else rd (h 28) 132 j := by
    intro j
    rw [e1, wr_upf (by omega) (by omega), show (3 : Int).toNat = 3 from rfl, rd_upf (by omega)]
    by_cases z3 : j = 3
    · rw [if_pos (by omega), if_pos z3]
    · rw [if_neg (by omega), if_neg z3]
      by_cases z : 0 ≤ j ∧ j < 132
      · rw [rd_in z.1 (by omega), d2, remH_28]
        by_cases y : (4 + (t : Int) ≤ j ∧ j < 4 + (l : Int) - 1) ∨ (14 + (t : Int) ≤ j ∧ j < 14 + (l : Int) - 1)
        · rw [if_pos (by omega), if_pos y, rd_in (by omega) (by omega), show (j + 1).toNat = j.toNat + 1 by omega]
        · rw [if_neg (by omega), if_neg y, rd_in z.1 (by omega)]
      · have o1 : ∀ f : Nat → Int, rd f 132 j = 0 := fun f => by unfold rd; rw [if_neg (by omega)]
        rw [o1, if_neg (by omega), o1]
  have e57 : h1 57 = h 57 := by rw [e1, wrA_cell (by decide), d1 57 (by decide), remH_57]
  have T : ∀ j : Int, rd (fun i => if i = 3 then (l : Int) - 1 else if 112 + 2 * t ≤ i ∧ i < 130 then h1 57 (i + 2) else h1 57 i) 132 j = if j = 3 then (l : Int) - 1 else if 112 + 2 * (t : Int) ≤ j ∧ j < 130 then rd (h 57) 132 (j + 2) else rd (h 57) 132 j := by
    intro j
    rw [e57]
    by_cases z : 0 ≤ j ∧ j < 132
    · rw [rd_in z.1 (by omega)]
      by_cases z3 : j = 3
      · rw [if_pos (by omega), if_pos z3]
      · rw [if_neg (by omega), if_neg z3]
        by_cases y : 112 + 2 * (t : Int) ≤ j ∧ j < 130
        · rw [if_pos (by omega), if_pos y, rd_in (by omega) (by omega), show (j + 2).toNat = j.toNat + 2 by omega]
        · rw [if_neg (by omega), if_neg y, rd_in z.1 (by omega)]
    · have o1 : ∀ f : Nat → Int, rd f 132 j = 0 := fun f => by unfold rd; rw [if_neg (by omega)]
      rw [o1, if_neg (by omega), if_neg (by omega), o1]
  refine INV_ch H hpm (fun q q1 _ => by rw [e1, wrA_cell q1, d1 q q1]) ?_ P ?_
  · obtain ⟨s0, s1, s2, s3, s4, s5, s6, s7⟩ := S
    refine ⟨?_, ?_, ?_, ?_, fun j j0 j1 => ?_, fun j j0 j1 => ?_, fun j j0 j1 => ?_, fun j j0 j1 => ?_⟩
    · rw [R, if_neg (by omega), if_neg (by omega)]; exact s0
    · rw [R, if_neg (by omega), if_neg (by omega)]; exact s1
    · rw [R, if_neg (by omega), if_neg (by omega)]; exact s2
    · rw [R, if_pos rfl]; omega
    · rw [R, if_neg (by omega)]
      split
      · exact s4 (j + 1) (by omega) (by omega)
      · exact s4 j j0 j1
    · rw [R, if_neg (by omega)]
      split
      · exact s5 (j + 1) (by omega) (by omega)
      · exact s5 j j0 j1
    · rw [R, if_neg (by omega), if_neg (by omega)]; exact s6 j j0 j1
    · rw [R, if_neg (by omega), if_neg (by omega)]; exact s7 j j0 j1
  · obtain ⟨⟨a0, a1, a2, a3⟩, b, c, d⟩ := C
    refine ⟨⟨?_, ?_, ?_, ?_⟩, fun m' s' p0 p1 q0 q1 => ?_, fun p' k' p0 p1 q0 q1 => ?_, fun r r0 r1 => ?_⟩
    · rw [R, T, if_neg (by omega), if_neg (by omega), if_neg (by omega), if_neg (by omega)]; exact a0
    · rw [R, T, if_neg (by omega), if_neg (by omega), if_neg (by omega), if_neg (by omega)]; exact a1
    · rw [R, T, if_neg (by omega), if_neg (by omega), if_neg (by omega), if_neg (by omega)]; exact a2
    · rw [R, T, if_pos rfl, if_pos rfl]
    · rw [R, T, if_neg (by omega), if_neg (by omega), if_neg (by omega), if_neg (by omega)]; exact b m' s' p0 p1 q0 q1
    · rw [R, T, if_neg (by omega), if_neg (by omega), if_neg (by omega), if_neg (by omega)]; exact c p' k' p0 p1 q0 q1
    · rw [R, if_pos rfl] at r1
      rw [T, T, R, R, if_neg (show ¬ 112 + 2 * r = 3 by omega), if_neg (show ¬ 112 + 2 * r + 1 = 3 by omega), if_neg (show ¬ 4 + r = 3 by omega), if_neg (show ¬ 14 + r = 3 by omega)]
      by_cases z : r < (t : Int)
      · rw [if_neg (by omega), if_neg (by omega), if_neg (by omega), if_neg (by omega)]
        exact d r r0 (by omega)
      · have o := d (r + 1) (by omega) (by omega)
        rw [if_pos (by omega), if_pos (by omega), if_pos (by omega), if_pos (by omega), show 112 + 2 * r + 2 = 112 + 2 * (r + 1) by omega, show 112 + 2 * r + 1 + 2 = 112 + 2 * (r + 1) + 1 by omega, show 4 + r + 1 = 4 + (r + 1) by omega, show 14 + r + 1 = 14 + (r + 1) by omega]
        exact o
/-- what grade leaves of the state -/
theorem gradeS_spec {m' : Nat} (hm : m' < 8) : ∀ (f t : Nat) (g : HP), t + f ≤ 6 → (∀ q, q ≠ 28 → gradeH (m' : Int) x y f (t : Int) g q = g q) ∧ ∀ i : Nat, gradeH (m' : Int) x y f (t : Int) g 28 i = if 24 + 6 * m' + t ≤ i ∧ i < 24 + 6 * m' + t + f then x + y * ((i : Int) - (24 + 6 * (m' : Int))) else g 28 i
  | 0, t, g, _ => ⟨fun _ _ => rfl, fun i => by rw [if_neg (by omega)]; rfl⟩
  | f + 1, t, g, ht => by
    obtain ⟨a, b⟩ := gradeS_spec hm f (t + 1) (wrA g 28 132 (24 + (m' : Int) * 6 + (t : Int)) (x + y * (t : Int))) (by omega)
    refine ⟨fun q hq => ?_, fun i => ?_⟩
    · refine (a q hq).trans ?_
      rw [wrA_cell hq]
    · refine (b i).trans ?_
      rw [wr_upf (by omega) (by omega), show (24 + (m' : Int) * 6 + (t : Int)).toNat = 24 + 6 * m' + t by omega]
      unfold upf
      by_cases z1 : i = 24 + 6 * m' + t
      · rw [if_neg (by omega), if_pos z1, if_pos (by omega), show (i : Int) - (24 + 6 * (m' : Int)) = (t : Int) by omega]
      · by_cases z2 : 24 + 6 * m' + (t + 1) ≤ i ∧ i < 24 + 6 * m' + (t + 1) + f
        · rw [if_pos z2, if_pos (by omega)]
        · rw [if_neg z2, if_neg z1, if_neg (by omega)]
theorem INV_grade {ns : Nat} (H : INV h) (hpm : h 50 15 = (pm : Int)) (hm : isMs h m) (hns : rd (h 21) 4 0 = (ns : Int)) (hx : ∀ t : Nat, t < ns → 0 ≤ x + (t : Int) * y ∧ x + (t : Int) * y ≤ 3000) (e1 : h1 = gradeH m x y ns 0 (remH h)) (P : chP M h1 pm v (fun i => if 4 + 6 * m.toNat ≤ i ∧ i < 4 + 6 * m.toNat + ns then x + ((i : Int) - (4 + 6 * m)) * y else h1 57 i) o Λ' h2) : INV h2 := by
  have a := H.1.1
  have S := a.2
  have C := H.1.2.1.2.2.2
  have bm := a.1.2.1
  have bs := a.1.1
  unfold isMs at hm
  obtain ⟨m', rfl⟩ : ∃ m' : Nat, m = (m' : Int) := ⟨m.toNat, by omega⟩
  obtain ⟨d1, d2⟩ := gradeS_spec (x := x) (y := y) (m' := m') (by omega) ns 0 (remH h) (by omega)
  have R : ∀ j : Int, rd (h1 28) 132 j = if 24 + 6 * (m' : Int) ≤ j ∧ j < 24 + 6 * (m' : Int) + (ns : Int) then x + (j - (24 + 6 * (m' : Int))) * y else rd (h 28) 132 j := by
    intro j
    rw [e1]
    by_cases z : 0 ≤ j ∧ j < 132
    · rw [rd_in z.1 (by omega)]
      refine (d2 j.toNat).trans ?_
      rw [remH_28]
      by_cases w : 24 + 6 * (m' : Int) ≤ j ∧ j < 24 + 6 * (m' : Int) + (ns : Int)
      · rw [if_pos (by omega), if_pos w, Int.mul_comm, show ((j.toNat : Nat) : Int) = j by omega]
      · rw [if_neg (by omega), if_neg w, rd_in z.1 (by omega)]
    · have o1 : ∀ f : Nat → Int, rd f 132 j = 0 := fun f => by unfold rd; rw [if_neg (by omega)]
      rw [o1, if_neg (by omega), o1]
  have e57 : h1 57 = h 57 := by rw [e1]; exact (d1 57 (by decide)).trans remH_57
  have T : ∀ j : Int, rd (fun i => if 4 + 6 * (m' : Int).toNat ≤ i ∧ i < 4 + 6 * (m' : Int).toNat + ns then x + ((i : Int) - (4 + 6 * (m' : Int))) * y else h1 57 i) 132 j = if 4 + 6 * (m' : Int) ≤ j ∧ j < 4 + 6 * (m' : Int) + (ns : Int) then x + (j - (4 + 6 * (m' : Int))) * y else rd (h 57) 132 j := by
    intro j
    rw [e57]
    by_cases z : 0 ≤ j ∧ j < 132
    · rw [rd_in z.1 (by omega)]
      by_cases w : 4 + 6 * (m' : Int) ≤ j ∧ j < 4 + 6 * (m' : Int) + (ns : Int)
      · rw [if_pos (by omega), if_pos w, show ((j.toNat : Nat) : Int) = j by omega]
      · rw [if_neg (by omega), if_neg w, rd_in z.1 (by omega)]
    · have o1 : ∀ f : Nat → Int, rd f 132 j = 0 := fun f => by unfold rd; rw [if_neg (by omega)]
      rw [o1, if_neg (by omega), o1]
  refine INV_ch H hpm (fun q q1 _ => by rw [e1]; exact d1 q q1) ?_ P ?_
  · obtain ⟨s0, s1, s2, s3, s4, s5, s6, s7⟩ := S
    refine ⟨?_, ?_, ?_, ?_, fun j j0 j1 => ?_, fun j j0 j1 => ?_, fun j j0 j1 => ?_, fun j j0 j1 => ?_⟩
    · rw [R, if_neg (by omega)]; exact s0
    · rw [R, if_neg (by omega)]; exact s1
    · rw [R, if_neg (by omega)]; exact s2
    · rw [R, if_neg (by omega)]; exact s3
    · rw [R, if_neg (by omega)]; exact s4 j j0 j1
    · rw [R, if_neg (by omega)]; exact s5 j j0 j1
    · rw [R]
      split
      · next w =>
        have o := hx (j - (24 + 6 * (m' : Int))).toNat (by omega)
        rw [show (((j - (24 + 6 * (m' : Int))).toNat : Nat) : Int) = j - (24 + 6 * (m' : Int)) by omega] at o
        exact o
      · exact s6 j j0 j1
    · rw [R, if_neg (by omega)]; exact s7 j j0 j1
  · obtain ⟨⟨a0, a1, a2, a3⟩, b, c, d⟩ := C
    refine ⟨⟨?_, ?_, ?_, ?_⟩, fun m2 s' p0 p1 q0 q1 => ?_, fun p' k' p0 p1 q0 q1 => ?_, fun r r0 r1 => ?_⟩
    · rw [R, T, if_neg (by omega), if_neg (by omega)]; exact a0
    · rw [R, T, if_neg (by omega), if_neg (by omega)]; exact a1
    · rw [R, T, if_neg (by omega), if_neg (by omega)]; exact a2
    · rw [R, T, if_neg (by omega), if_neg (by omega)]; exact a3
    · rw [R, T]
      by_cases w : 4 + 6 * (m' : Int) ≤ 4 + 6 * m2 + s' ∧ 4 + 6 * m2 + s' < 4 + 6 * (m' : Int) + (ns : Int)
      · rw [if_pos w, if_pos (by omega), show 4 + 6 * m2 + s' - (4 + 6 * (m' : Int)) = 24 + m2 * 6 + s' - (24 + 6 * (m' : Int)) by omega]
      · rw [if_neg w, if_neg (by omega)]
        exact b m2 s' p0 p1 q0 q1
    · rw [R, T, if_neg (by omega), if_neg (by omega)]; exact c p' k' p0 p1 q0 q1
    · have l10 := H.1.1.2.2.2.2.1
      rw [R, if_neg (by omega)] at r1
      rw [T, T, R, R, if_neg (by omega), if_neg (by omega), if_neg (by omega), if_neg (by omega)]
      exact d r r0 r1
end INV3
