/-! ===== INV behind undo, save, restore, append, truncate ===== -/
theorem or_and_32 (x b : Int32) : (x ||| b) &&& b = b := by
  apply Int32.toBitVec_inj.mp
  rw [Int32.toBitVec_and, Int32.toBitVec_or]
  apply BitVec.eq_of_getElem_eq
  intro i hi
  rw [BitVec.getElem_and, BitVec.getElem_or]
  cases x.toBitVec[i] <;> cases b.toBitVec[i] <;> rfl
theorem or_and_33 (x b c : Int32) : (x ||| b) &&& c = (x &&& c) ||| (b &&& c) := by
  apply Int32.toBitVec_inj.mp
  rw [Int32.toBitVec_and, Int32.toBitVec_or, Int32.toBitVec_or, Int32.toBitVec_and, Int32.toBitVec_and]
  apply BitVec.eq_of_getElem_eq
  intro i hi
  rw [BitVec.getElem_and, BitVec.getElem_or, BitVec.getElem_or, BitVec.getElem_and, BitVec.getElem_and]
  cases x.toBitVec[i] <;> cases b.toBitVec[i] <;> cases c.toBitVec[i] <;> rfl
theorem sv_same {a b : Int} (hb : inR b) : iandI (iorI a b) b = b := by
  unfold iandI iorI
  rw [i_of, or_and_32, i_to hb]
theorem sv_other {a b c : Int} (hz : Int32.ofInt b &&& Int32.ofInt c = 0) : iandI (iorI a b) c = iandI a c := by
  unfold iandI iorI
  rw [i_of, or_and_33, hz, Int32.or_zero]
theorem sv_bit : ∀ t : Nat, t < 2 → inR (ishlI 1 (t : Int)) ∧ ishlI 1 (t : Int) ≠ 0 := by
  intro t ht
  rw [ii_shl t (by omega)]
  have : t = 0 ∨ t = 1 := by omega
  rcases this with rfl | rfl
  · exact ⟨⟨by decide, by decide⟩, by decide⟩
  · exact ⟨⟨by decide, by decide⟩, by decide⟩
theorem sv_dis : ∀ t r : Nat, t < 2 → r < 2 → r ≠ t → Int32.ofInt (ishlI 1 (t : Int)) &&& Int32.ofInt (ishlI 1 (r : Int)) = 0 := by
  intro t r ht hr hn
  rw [ii_shl t (by omega), ii_shl r (by omega)]
  have : (t = 0 ∧ r = 1) ∨ (t = 1 ∧ r = 0) := by omega
  rcases this with ⟨rfl, rfl⟩ | ⟨rfl, rfl⟩ <;> decide
theorem INV_mk {h h2 : HP} (H : INV h) (gc : ∀ c, (c = 2 ∨ c = 3 ∨ (20 ≤ c ∧ c ≤ 26) ∨ (51 ≤ c ∧ c ≤ 56) ∨ c = 61) → h2 c = h c) (gf : ∀ q, ((1 ≤ q ∧ q ≤ 4) ∨ q = 17 ∨ q = 23 ∨ q = 24) → h2 50 q = h 50 q) (g13 : h2 1 13 = h 1 13) (g14 : h2 1 14 = h 1 14)
    (S1 : StOK (h2 28)) (S2 : StC (h2 57) (h2 28)) (u : undoOK h2) (p : PastC h2) (s : SlotC h2) : INV h2 := by
  obtain ⟨⟨a, b, c⟩, d, e, f, g, k⟩ := H
  have gm : ∀ c, 51 ≤ c → c ≤ 55 → h2 c = h c := fun c x y => gc c (by omega)
  have gk : ∀ c, 20 ≤ c → c ≤ 26 → h2 c = h c := fun c x y => gc c (by omega)
  refine ⟨⟨CI_of a (gk 21 (by decide) (by decide)) (gk 22 (by decide) (by decide)) (gk 23 (by decide) (by decide)) (gk 24 (by decide) (by decide)) (gk 25 (by decide) (by decide)) (gk 26 (by decide) (by decide)) S1,
    Cpl_T (TbC_fr (TbC_of a b) (fun c x y => gk c (by omega) y) gm (fun j x y => gf j (Or.inl ⟨x, y⟩))) S2, u⟩, p, s, ?_, ?_, ?_⟩
  · unfold TextC at *
    rw [gf 17 (by omega), gc 2 (by omega), gc 3 (by omega), gc 61 (by omega)]
    exact f
  · unfold FaultC at *
    rw [gf 23 (by omega), gf 24 (by omega), g13, g14]
    exact g
  · unfold NameC at *
    rw [gk 20 (by decide) (by decide), gk 21 (by decide) (by decide), gc 56 (by omega)]
    exact k
theorem INV_undo {h h2 : HP} {pm : Nat} (H : INV h) (hp : h 50 15 = (pm : Int) + 1) (g1 : ∀ c, c ≠ 50 → c ≠ 57 → h2 c = undoH h c) (g2 : ∀ q, q ≠ 0 → q ≠ 15 → h2 50 q = undoH h 50 q) (g3 : h2 50 15 = (pm : Int)) (g4 : ∀ i : Nat, i < 132 → h2 57 i = undoH h 58 (132 * pm + i)) : INV h2 := by
  have HH := H
  obtain ⟨⟨a, b, c⟩, d, e, -, -, -⟩ := HH
  unfold undoOK at c
  obtain ⟨u1, u2, u3⟩ := c
  have p15 := d.1
  have eT : undoT h = (h 1 11 - 1) % 8 := by
    unfold undoT
    rw [Int.tmod_eq_emod_of_nonneg (by omega)]
    omega
  have tb : 0 ≤ undoT h ∧ undoT h < 8 := by rw [eT]; omega
  have U : ∀ c, c ≠ 1 → c ≠ 28 → undoH h c = h c := fun c c1 c2 => by unfold undoH; rw [cpA_cell c2, up_cell c1, up_cell c1]
  have U10 : undoH h 1 10 = h 1 10 - 1 := by unfold undoH; rw [cpA_cell (by decide), up_same]
  have U11 : undoH h 1 11 = undoT h := by unfold undoH; rw [cpA_cell (by decide), up_ne (by decide), up_same]
  have Uo : ∀ q, q ≠ 10 → q ≠ 11 → undoH h 1 q = h 1 q := fun q q1 q2 => by unfold undoH; rw [cpA_cell (by decide), up_ne q1, up_ne q2]
  have U28 : ∀ i : Nat, i < 132 → undoH h 28 i = h 47 (132 * (undoT h).toNat + i) := fun i hi => by
    unfold undoH cpA
    rw [upA_same, if_pos ⟨by omega, by omega, hi⟩, rdA_in (by omega) (by omega), up_cell (by decide), up_cell (by decide)]
    rw [show (undoT h * 132 + ((i : Int) - 0)).toNat = 132 * (undoT h).toNat + i by omega]
  have ep : pastR h pm = (undoT h).toNat := by unfold pastR; omega
  have top := d.2 pm (by omega)
  have r28 : ∀ i : Nat, i < 132 → h2 28 i = stRow (h 47) (pastR h pm) i := fun i hi => by rw [g1 28 (by decide) (by decide), U28 i hi, ep]; rfl
  have r57 : ∀ i : Nat, i < 132 → h2 57 i = stRow (h 58) pm i := fun i hi => by rw [g4 i hi, U 58 (by decide) (by decide)]; rfl
  have g11 := g1 1 (by decide) (by decide)
  refine INV_mk H (fun c hc => by rw [g1 c (by omega) (by omega), U c (by omega) (by omega)]) (fun q hq => by rw [g2 q (by omega) (by omega), U 50 (by decide) (by decide)]) (by rw [g11, Uo 13 (by decide) (by decide)]) (by rw [g11, Uo 14 (by decide) (by decide)])
    (StOK_cg (rd_cg r28) top.2) (StC_cg (rd_cg r57) (rd_cg r28) top.1) ?_ ⟨?_, ?_⟩ ?_
  · unfold undoOK; rw [g11, U10, U11]; exact ⟨⟨by omega, by omega⟩, tb.1, tb.2⟩
  · rw [g3, g11, U10]; omega
  · intro j hj
    rw [g11, U10] at hj
    have e1 : pastR h2 j = pastR h j := by unfold pastR; rw [g11, U10, U11, eT]; omega
    rw [e1, g1 58 (by decide) (by decide), g1 47 (by decide) (by decide), U 58 (by decide) (by decide), U 47 (by decide) (by decide)]
    exact d.2 j (by omega)
  · unfold SlotC isSv at *
    rw [g11, Uo 12 (by decide) (by decide), g1 49 (by decide) (by decide), g1 59 (by decide) (by decide), g1 60 (by decide) (by decide), U 49 (by decide) (by decide), U 59 (by decide) (by decide), U 60 (by decide) (by decide)]
    exact e
theorem INV_save {h h2 : HP} {t : Nat} (H : INV h) (ht : t < 2) (g1 : ∀ c, c ≠ 50 → c ≠ 59 → c ≠ 60 → h2 c = saveH h t c) (g2 : ∀ q, q ≠ 0 → h2 50 q = saveH h t 50 q) (g3 : ∀ q, q ≠ t → h2 60 q = saveH h t 60 q) (g4 : h2 60 t = 1)
    (g5 : ∀ i : Nat, i < 132 → h2 59 (132 * t + i) = saveH h t 57 i) (g6 : ∀ q : Nat, (q < 132 * t ∨ 132 * t + 132 ≤ q) → h2 59 q = saveH h t 59 q) : INV h2 := by
  have HH := H
  obtain ⟨⟨a, b, c⟩, d, e, -, -, -⟩ := HH
  have U : ∀ c, c ≠ 1 → c ≠ 49 → saveH h t c = h c := fun c c1 c2 => by unfold saveH; rw [up_cell c1, cpA_cell c2]
  have U12 : saveH h t 1 12 = iorI (h 1 12) (ishlI 1 t) := by unfold saveH; rw [up_same]
  have Uo : ∀ q, q ≠ 12 → saveH h t 1 q = h 1 q := fun q q1 => by unfold saveH; rw [up_ne q1, cpA_cell (by decide)]
  have U49 : ∀ r i : Nat, r < 2 → i < 132 → saveH h t 49 (132 * r + i) = if r = t then h 28 i else h 49 (132 * r + i) := by
    intro r i hr hi
    unfold saveH
    rw [up_cell (by decide)]
    unfold cpA
    rw [upA_same]
    by_cases z : r = t
    · rw [if_pos ⟨by omega, by omega, by omega⟩, if_pos z, rdA_in (by omega) (by omega)]
      rw [show (0 + (((132 * r + i : Nat) : Int) - (t : Int) * 132)).toNat = i by omega]
    · rw [if_neg (by omega), if_neg z]
  have g11 := g1 1 (by decide) (by decide) (by decide)
  have g28 : h2 28 = h 28 := by rw [g1 28 (by decide) (by decide) (by decide), U 28 (by decide) (by decide)]
  have g57 : h2 57 = h 57 := by rw [g1 57 (by decide) (by decide) (by decide), U 57 (by decide) (by decide)]
  have g49 := g1 49 (by decide) (by decide) (by decide)
  refine INV_mk H (fun c hc => by rw [g1 c (by omega) (by omega) (by omega), U c (by omega) (by omega)]) (fun q hq => by rw [g2 q (by omega), U 50 (by decide) (by decide)]) (by rw [g11, Uo 13 (by decide)]) (by rw [g11, Uo 14 (by decide)])
    (by rw [g28]; exact a.2) (by rw [g28, g57]; exact b.2.2.2) ?_ ?_ ?_
  · unfold undoOK at *; rw [g11, Uo 10 (by decide), Uo 11 (by decide)]; exact c
  · unfold PastC pastR at *
    rw [g11, Uo 10 (by decide), Uo 11 (by decide), g2 15 (by decide), U 50 (by decide) (by decide), g1 58 (by decide) (by decide) (by decide), g1 47 (by decide) (by decide) (by decide), U 58 (by decide) (by decide), U 47 (by decide) (by decide)]
    exact d
  · intro r hr
    have o := e r hr
    by_cases z : r = t
    · subst z
      have sb := sv_bit r hr
      have r49 : ∀ i : Nat, i < 132 → stRow (h2 49) r i = h 28 i := fun i hi => by
        show h2 49 (132 * r + i) = _
        rw [g49, U49 r i hr hi, if_pos rfl]
      have r59 : ∀ i : Nat, i < 132 → stRow (h2 59) r i = h 57 i := fun i hi => by
        show h2 59 (132 * r + i) = _
        rw [g5 i hi, U 57 (by decide) (by decide)]
      refine ⟨Or.inr g4, ⟨fun _ => g4, fun _ => ?_⟩, fun _ => ⟨StC_cg (rd_cg r59) (rd_cg r49) b.2.2.2, StOK_cg (rd_cg r49) a.2⟩⟩
      unfold isSv
      rw [g11, U12, sv_same sb.1]
      exact sb.2
    · have r49 : ∀ i : Nat, i < 132 → stRow (h2 49) r i = stRow (h 49) r i := fun i hi => by
        show h2 49 (132 * r + i) = h 49 (132 * r + i)
        rw [g49, U49 r i hr hi, if_neg z]
      have r59 : ∀ i : Nat, i < 132 → stRow (h2 59) r i = stRow (h 59) r i := fun i hi => by
        show h2 59 (132 * r + i) = h 59 (132 * r + i)
        rw [g6 _ (by omega), U 59 (by decide) (by decide)]
      have e60 : h2 60 r = h 60 r := by rw [g3 r z, U 60 (by decide) (by decide)]
      have es : isSv h2 r ↔ isSv h r := by unfold isSv; rw [g11, U12, sv_other (sv_dis t r ht hr z)]
      rw [e60, es]
      exact ⟨o.1, o.2.1, fun y => ⟨StC_cg (rd_cg r59) (rd_cg r49) (o.2.2 y).1, StOK_cg (rd_cg r49) (o.2.2 y).2⟩⟩
theorem INV_restore {h h2 : HP} {t : Nat} (H : INV h) (ht : t < 2) (hv : h 60 t = 1) (g1 : ∀ c, c ≠ 50 → c ≠ 57 → h2 c = restH h t c) (g2 : ∀ q, q ≠ 0 → q ≠ 15 → h2 50 q = restH h t 50 q) (g3 : h2 50 15 = 0) (g4 : ∀ i : Nat, i < 132 → h2 57 i = restH h t 59 (132 * t + i)) : INV h2 := by
  have HH := H
  obtain ⟨⟨a, b, c⟩, d, e, -, -, -⟩ := HH
  unfold undoOK at c
  obtain ⟨u1, u2, u3⟩ := c
  have U : ∀ c, c ≠ 1 → c ≠ 28 → restH h t c = h c := fun c c1 c2 => by unfold restH; rw [up_cell c1, cpA_cell c2]
  have U10 : restH h t 1 10 = 0 := by unfold restH; rw [up_same]
  have Uo : ∀ q, q ≠ 10 → restH h t 1 q = h 1 q := fun q q1 => by unfold restH; rw [up_ne q1, cpA_cell (by decide)]
  have U28 : ∀ i : Nat, i < 132 → restH h t 28 i = stRow (h 49) t i := fun i hi => by
    unfold restH
    rw [up_cell (by decide)]
    unfold cpA
    rw [upA_same, if_pos ⟨by omega, by omega, hi⟩, rdA_in (by omega) (by omega)]
    rw [show ((t : Int) * 132 + ((i : Int) - 0)).toNat = 132 * t + i by omega]
    rfl
  have o := (e t ht).2.2 hv
  have g11 := g1 1 (by decide) (by decide)
  have r28 : ∀ i : Nat, i < 132 → h2 28 i = stRow (h 49) t i := fun i hi => by rw [g1 28 (by decide) (by decide), U28 i hi]
  have r57 : ∀ i : Nat, i < 132 → h2 57 i = stRow (h 59) t i := fun i hi => by rw [g4 i hi, U 59 (by decide) (by decide)]; rfl
  refine INV_mk H (fun c hc => by rw [g1 c (by omega) (by omega), U c (by omega) (by omega)]) (fun q hq => by rw [g2 q (by omega) (by omega), U 50 (by decide) (by decide)]) (by rw [g11, Uo 13 (by decide)]) (by rw [g11, Uo 14 (by decide)])
    (StOK_cg (rd_cg r28) o.2) (StC_cg (rd_cg r57) (rd_cg r28) o.1) ?_ ⟨?_, ?_⟩ ?_
  · unfold undoOK; rw [g11, U10, Uo 11 (by decide)]; exact ⟨⟨by decide, by decide⟩, u2, u3⟩
  · rw [g3, g11, U10]
  · intro j hj
    rw [g11, U10] at hj
    omega
  · unfold SlotC isSv at *
    rw [g11, Uo 12 (by decide), g1 49 (by decide) (by decide), g1 59 (by decide) (by decide), g1 60 (by decide) (by decide), U 49 (by decide) (by decide), U 59 (by decide) (by decide), U 60 (by decide) (by decide)]
    exact e
theorem INV_txt {h h' : HP} (H : INV h) (hc : ∀ c, inI c → c ≠ 2 → c ≠ 3 → c ≠ 61 → h' c = h c) (hq : ∀ q, inF q → q ≠ 17 → h' 50 q = h 50 q) (T : TextC h') : INV h' := by
  obtain ⟨⟨a, b, c⟩, d, e, f, g, k⟩ := H
  have c1 := hc 1 (by unfold inI; omega) (by decide) (by decide) (by decide)
  have cs : ∀ c, 20 ≤ c → c ≤ 28 → h' c = h c := fun c x y => hc c (by unfold inI; omega) (by omega) (by omega) (by omega)
  have cm : ∀ c, 51 ≤ c → c ≤ 60 → h' c = h c := fun c x y => hc c (by unfold inI; omega) (by omega) (by omega) (by omega)
  have c47 := hc 47 (by unfold inI; omega) (by decide) (by decide) (by decide)
  have c49 := hc 49 (by unfold inI; omega) (by decide) (by decide) (by decide)
  refine ⟨⟨CI_fr a (fun c x y => cs c (by omega) y), Cpl_fr b (fun c x y => cs c (by omega) y) (fun c x y => cm c x (by omega)) (fun j x y => hq j (Or.inl ⟨x, y⟩) (by omega)), ?_⟩, ?_, ?_, T, ?_, ?_⟩
  · unfold undoOK at *; rw [c1]; exact c
  · unfold PastC pastR at *; rw [c1, c47, cm 58 (by decide) (by decide), hq 15 (by unfold inF; omega) (by decide)]; exact d
  · unfold SlotC isSv at *; rw [c1, c49, cm 59 (by decide) (by decide), cm 60 (by decide) (by decide)]; exact e
  · unfold FaultC at *; rw [c1, hq 23 (by unfold inF; omega) (by decide), hq 24 (by unfold inF; omega) (by decide)]; exact g
  · unfold NameC at *; rw [cs 20 (by decide) (by decide), cs 21 (by decide) (by decide), cm 56 (by decide) (by decide)]; exact k
theorem INV_truncate {h : HP} {i : Int} (H : INV h) (hi : 0 ≤ i ∧ i ≤ h 2 1) : INV (up (up (up h 2 1 i) 50 0 0) 50 17 i) := by
  refine INV_txt H (fun c hc c2 _ _ => ?_) (fun q hq q17 => ?_) ?_
  · unfold inI at hc
    rw [up_cell (by omega), up_cell (by omega), up_cell c2]
  · unfold inF at hq
    rw [up_ne q17, up_ne (by omega), up_cell (by decide)]
  · have f := H.2.2.2.1
    have l := f.1.2.2
    have e21 : up (up (up h 2 1 i) 50 0 0) 50 17 i 2 1 = i := by rw [up_cell (by decide), up_cell (by decide), up_same]
    have e3 : up (up (up h 2 1 i) 50 0 0) 50 17 i 3 = h 3 := by rw [up_cell (by decide), up_cell (by decide), up_cell (by decide)]
    have e61 : up (up (up h 2 1 i) 50 0 0) 50 17 i 61 = h 61 := by rw [up_cell (by decide), up_cell (by decide), up_cell (by decide)]
    unfold TextC
    rw [e21, e3, e61, up_same]
    exact ⟨⟨rfl, hi.1, by omega⟩, fun j hj => f.2 j (by omega)⟩
theorem INV_append {h h2 : HP} {a b c d e : Int} {n : Nat} (H : INV h) (hn : h 2 1 = (n : Int)) (hl : n ≤ 1480) (ha : inR a) (hb : inR b) (hc : inR c) (hd : inR d) (he : inR e) (g1 : ∀ x, x ≠ 50 → x ≠ 61 → h2 x = apB h (bs20 a b c d e) x) (g2 : ∀ q, q ≠ 0 → q ≠ 17 → h2 50 q = apB h (bs20 a b c d e) 50 q)
    (g3 : h2 50 17 = (n : Int) + 20) (g4 : ∀ q, q < n → h2 61 q = apB h (bs20 a b c d e) 61 q) (g5 : ∀ k, k < 20 → h2 61 (n + k) = iandI (ishrI (wd5 a b c d e k) (24 - 8 * ((k : Int).tmod 4))) 255) : INV h2 := by
  obtain ⟨s1, s2, s3, s4, s5⟩ := apB_spec (bs20 a b c d e) h n hn (show n + 20 ≤ 1500 by omega)
  have f := H.2.2.2.1
  refine INV_txt H (fun c hc c2 c3 c61 => ?_) (fun q hq q17 => ?_) ?_
  · unfold inI at hc
    rw [g1 c (by omega) c61, s1 c c2 c3]
  · unfold inF at hq
    rw [g2 q (by omega) q17, s1 50 (by decide) (by decide)]
  · have e21 : h2 2 1 = (n : Int) + 20 := by rw [g1 2 (by decide) (by decide), s3]; rfl
    have e3 := g1 3 (by decide) (by decide)
    unfold TextC
    rw [e21, g3, e3]
    refine ⟨⟨rfl, by omega, by omega⟩, fun i hi => ?_⟩
    by_cases z : i < n
    · rw [g4 i z, s4 i z, s1 61 (by decide) (by decide)]
      exact f.2 i (by omega)
    · obtain ⟨k, rfl⟩ : ∃ k, i = n + k := ⟨i - n, by omega⟩
      rw [g5 k (by omega), s5 k (show k < 20 by omega)]
      exact (bs20_at ha hb hc hd he k (by omega)).symm
