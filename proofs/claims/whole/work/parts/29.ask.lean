/-! ===== KnitGrader: the answers about pieces ===== -/
section ASK
variable {N : List CT} {h : HP} {s p r i c : Int} {k n : Nat}
theorem K_failure (hC : CI h) (hs : isSz h s) (hp : isPc h p) : Ok 140 [vR 1, vI s, vI p] (LC N) h (fun o Λ' h' => o = .inl (some (vI (fl (gD h s p) (gN h p)))) ∧ Λ' = LC N ∧ FrQ h h') := by
  refine ok_body B_X8_failure rfl (fun X hX => ?_)
  refine hX 80 [] 0 _ _ _ _ _ _ ?_
  refine Ok_mono (fun o' Λ' h' hpost => ?_) (plPc_ok hC hs hp)
  obtain ⟨rfl, rfl, hQ, hF⟩ := hpost
  exact ⟨congrArg (fun z => Sum.inl (some (vI z))) hQ.1.2.2.2.1, rfl, FrQ_of hF⟩

theorem K_failure_x (hx : ¬ (isSz h s ∧ isPc h p)) : Ok 140 [vR 1, vI s, vI p] (LC N) h (fun o Λ' h' => o = .inr 2 ∧ Λ' = LC N ∧ FrQ h h') := by
  refine ok_body B_X8_failure rfl (fun X hX => ?_)
  refine hX 80 [] 0 _ _ _ _ _ _ ?_
  refine Ok_ex (plPc_ex hx) ?_
  exact ⟨rfl, rfl, FrQ_rf h⟩

theorem K_rows (hC : CI h) (hs : isSz h s) (hp : isPc h p) : Ok 141 [vR 1, vI s, vI p] (LC N) h (fun o Λ' h' => o = .inl (some (vI (rwN h s p))) ∧ Λ' = LC N ∧ FrQ h h') := by
  refine ok_body B_X8_rows rfl (fun X hX => ?_)
  refine hX 80 [] 0 _ _ _ _ _ _ ?_
  refine Ok_mono (fun o' Λ' h' hpost => ?_) (plPc_ok hC hs hp)
  obtain ⟨rfl, rfl, hQ, hF⟩ := hpost
  exact ⟨congrArg (fun z => Sum.inl (some (vI z))) hQ.1.2.2.1, rfl, FrQ_of hF⟩

theorem K_rows_x (hx : ¬ (isSz h s ∧ isPc h p)) : Ok 141 [vR 1, vI s, vI p] (LC N) h (fun o Λ' h' => o = .inr 2 ∧ Λ' = LC N ∧ FrQ h h') := by
  refine ok_body B_X8_rows rfl (fun X hX => ?_)
  refine hX 80 [] 0 _ _ _ _ _ _ ?_
  refine Ok_ex (plPc_ex hx) ?_
  exact ⟨rfl, rfl, FrQ_rf h⟩

theorem K_partRows (hC : CI h) (hs : isSz h s) (hp : isPc h p) (hk : isPa h p k) (hm : k < mdN h s p) : Ok 142 [vR 1, vI s, vI p, vI (k : Int)] (LC N) h (fun o Λ' h' => o = .inl (some (vI (kR (gD h s p) k))) ∧ Λ' = LC N ∧ FrQ h h') := by
  refine ok_body B_X8_partRows rfl (fun X hX => ?_)
  refine hX 80 [] 0 _ _ _ _ _ _ ?_
  refine Ok_mono (fun o' Λ' h' hpost => ?_) (plPt_ok hC hs hp hk (by omega))
  obtain ⟨rfl, rfl, hQ, hF⟩ := hpost
  refine Ok_rt (dRows (Or.inl rfl) hQ hm) ?_
  exact ⟨rfl, rfl, FrQ_of hF⟩

theorem K_partRows_x (hC : CI h) (hx : ¬ (((isSz h s ∧ isPc h p) ∧ isPa h p r) ∧ r < (mdN h s p : Nat))) : Ok 142 [vR 1, vI s, vI p, vI r] (LC N) h (fun o Λ' h' => ((((isSz h s ∧ isPc h p) ∧ isPa h p r) ∧ o = .inr 1) ∨ (¬ ((isSz h s ∧ isPc h p) ∧ isPa h p r) ∧ o = .inr 2)) ∧ Λ' = LC N ∧ FrQ h h') := by
  refine ok_body B_X8_partRows rfl (fun X hX => ?_)
  refine hX 80 [] 0 _ _ _ _ _ _ ?_
  refine Ok_mono (fun o' Λ' h' hpost => ?_) (plPt_ex hC hx)
  obtain ⟨ho, rfl, hF⟩ := hpost
  rcases ho with ⟨a, rfl⟩ | ⟨a, rfl⟩
  · exact ⟨Or.inl ⟨a, rfl⟩, rfl, FrQ_of hF⟩
  · exact ⟨Or.inr ⟨a, rfl⟩, rfl, FrQ_of hF⟩

theorem K_shaping_x (hC : CI h) (hx : ¬ (((isSz h s ∧ isPc h p) ∧ isPa h p r) ∧ r < (mdN h s p : Nat))) : Ok 146 [vR 1, vI s, vI p, vI r, vI i] (LC N) h (fun o Λ' h' => ((((isSz h s ∧ isPc h p) ∧ isPa h p r) ∧ o = .inr 1) ∨ (¬ ((isSz h s ∧ isPc h p) ∧ isPa h p r) ∧ o = .inr 2)) ∧ Λ' = LC N ∧ FrQ h h') := by
  refine ok_body B_X8_shaping rfl (fun X hX => ?_)
  refine hX 80 [] 0 _ _ _ _ _ _ ?_
  refine Ok_mono (fun o' Λ' h' hpost => ?_) (plPt_ex hC hx)
  obtain ⟨ho, rfl, hF⟩ := hpost
  rcases ho with ⟨a, rfl⟩ | ⟨a, rfl⟩
  · exact ⟨Or.inl ⟨a, rfl⟩, rfl, FrQ_of hF⟩
  · exact ⟨Or.inr ⟨a, rfl⟩, rfl, FrQ_of hF⟩

theorem rw_in (hC : CI h) (hs : isSz h s) (hp : isPc h p) (hk : k < mdN h s p) (h1 : tp (gD h s p) k ≤ r) (h2 : r < tp (gD h s p) (k + 1)) : 0 ≤ r ∧ r < rwN h s p := by
  have hs6 : 0 ≤ s ∧ s < 6 := ⟨hs.1, by have := hC.1.1; have := hs.2; omega⟩
  have hK : KOK (gD h s p) (gN h p) := cD_ok hC.1 hC.2 hs6 hp
  have hm := (md_spec (gD h s p) (gN h p)).1
  have a := tp_bd hK k (by unfold mdN at hk; omega)
  have b := tp_le hK (show k + 1 ≤ md (gD h s p) (gN h p) from hk) hm
  exact ⟨by omega, by unfold rwN; omega⟩
theorem K_stitches (hC : CI h) (hs : isSz h s) (hp : isPc h p) (hk : k < mdN h s p) (h1 : tp (gD h s p) k ≤ r) (h2 : r < tp (gD h s p) (k + 1)) : Ok 143 [vR 1, vI s, vI p, vI r] (LC N) h (fun o Λ' h' => o = .inl (some (vI (sS (gD h s p) k (r - tp (gD h s p) k)))) ∧ Λ' = LC N ∧ FrQ h h') := by
  refine ok_body B_X8_stitches rfl (fun X hX => ?_)
  refine hX 80 [] 0 _ _ _ _ _ _ ?_
  have hr := rw_in hC hs hp hk h1 h2
  refine Ok_mono (fun o' Λ' h' hpost => ?_) (plRw_ok hC hs hp hr)
  obtain ⟨rfl, rfl, hQ, hF⟩ := hpost
  refine Ok_rt (dSt (Or.inl rfl) hQ hk h1 h2) ?_
  exact ⟨rfl, rfl, FrQ_of hF⟩

theorem K_partAt (hC : CI h) (hs : isSz h s) (hp : isPc h p) (hk : k < mdN h s p) (h1 : tp (gD h s p) k ≤ r) (h2 : r < tp (gD h s p) (k + 1)) : Ok 144 [vR 1, vI s, vI p, vI r] (LC N) h (fun o Λ' h' => o = .inl (some (vI (k : Int))) ∧ Λ' = LC N ∧ FrQ h h') := by
  refine ok_body B_X8_partAt rfl (fun X hX => ?_)
  refine hX 80 [] 0 _ _ _ _ _ _ ?_
  have hr := rw_in hC hs hp hk h1 h2
  refine Ok_mono (fun o' Λ' h' hpost => ?_) (plRw_ok hC hs hp hr)
  obtain ⟨rfl, rfl, hQ, hF⟩ := hpost
  refine Ok_rt (dPart (Or.inl rfl) hQ hk h1 h2) ?_
  exact ⟨rfl, rfl, FrQ_of hF⟩

theorem K_stitches_x (hC : CI h) (hx : ¬ ((isSz h s ∧ isPc h p) ∧ 0 ≤ r ∧ r < rwN h s p)) : Ok 143 [vR 1, vI s, vI p, vI r] (LC N) h (fun o Λ' h' => o = .inr 2 ∧ Λ' = LC N ∧ FrQ h h') := by
  refine ok_body B_X8_stitches rfl (fun X hX => ?_)
  refine hX 80 [] 0 _ _ _ _ _ _ ?_
  refine Ok_mono (fun o' Λ' h' hpost => ?_) (plRw_ex hC hx)
  obtain ⟨rfl, rfl, hF⟩ := hpost
  exact ⟨rfl, rfl, FrQ_of hF⟩

theorem K_partAt_x (hC : CI h) (hx : ¬ ((isSz h s ∧ isPc h p) ∧ 0 ≤ r ∧ r < rwN h s p)) : Ok 144 [vR 1, vI s, vI p, vI r] (LC N) h (fun o Λ' h' => o = .inr 2 ∧ Λ' = LC N ∧ FrQ h h') := by
  refine ok_body B_X8_partAt rfl (fun X hX => ?_)
  refine hX 80 [] 0 _ _ _ _ _ _ ?_
  refine Ok_mono (fun o' Λ' h' hpost => ?_) (plRw_ex hC hx)
  obtain ⟨rfl, rfl, hF⟩ := hpost
  exact ⟨rfl, rfl, FrQ_of hF⟩

theorem K_width_x (hC : CI h) (hx : ¬ ((isSz h s ∧ isPc h p) ∧ 0 ≤ r ∧ r < rwN h s p)) : Ok 147 [vR 1, vI s, vI p, vI r] (LC N) h (fun o Λ' h' => o = .inr 2 ∧ Λ' = LC N ∧ FrQ h h') := by
  refine ok_body B_X8_width rfl (fun X hX => ?_)
  refine hX 80 [] 0 _ _ _ _ _ _ ?_
  refine Ok_mono (fun o' Λ' h' hpost => ?_) (plRw_ex hC hx)
  obtain ⟨rfl, rfl, hF⟩ := hpost
  exact ⟨rfl, rfl, FrQ_of hF⟩

/-- the cast is always knitted -/
theorem md_pos (hC : CI h) (hs : isSz h s) (hp : isPc h p) : 0 < mdN h s p := by
  have hs6 : 0 ≤ s ∧ s < 6 := ⟨hs.1, by have := hC.1.1; have := hs.2; omega⟩
  have hK : KOK (gD h s p) (gN h p) := cD_ok hC.1 hC.2 hs6 hp
  have hn := (hC.1.2.2.2.2.2 p hp.1 hp.2).1
  have hn1 : 0 < gN h p := by unfold gN; omega
  have k0 := hK 0 hn1
  have w0 : why (gD h s p) 0 = 0 := by
    have e0 : kK (gD h s p) (0 : Nat) = 0 := k0.2.1.mpr rfl
    unfold why whyV
    have e1 : kH (gD h s p) (0 : Nat) = -1 := by
      rcases k0.2.2.2.2.2.2.1 with z | z
      · exact z
      · have := z.1; omega
    rw [if_neg (fun z => z e1), if_pos (Or.inl (by omega))]
  have hm := md_spec (gD h s p) (gN h p)
  unfold mdN
  by_cases z : md (gD h s p) (gN h p) = 0
  · rw [z] at hm
    rcases hm.2.2 with q | q
    · omega
    · exact absurd w0 q
  · omega
theorem K_extreme (hC : CI h) (hs : isSz h s) (hp : isPc h p) : Ok 145 [vR 1, vI s, vI p, vI i] (LC N) h (fun o Λ' h' => o = .inl (some (vI (if i = 0 then gMn (gD h s p) (mdN h s p - 1) 1 (hv (gD h s p) (0 + 1)) else gMx (gD h s p) (mdN h s p) 0 0))) ∧ Λ' = LC N ∧ FrQ h h') := by
  refine ok_body B_X8_extreme rfl (fun X hX => ?_)
  refine hX 80 [] 0 _ _ _ _ _ _ ?_
  have h0 := md_pos hC hs hp
  refine Ok_mono (fun o' Λ' h' hpost => ?_) (plPc_ok hC hs hp)
  obtain ⟨rfl, rfl, hQ, hF⟩ := hpost
  refine And.intro (fun c7 => ?_) (fun c7 => ?_)
  · refine Ok_rt (least_ok hQ h0) ?_
    exact ⟨by rw [if_pos c7]; rfl, rfl, FrQ_of hF⟩
  · refine Ok_rt (greatest_ok hQ) ?_
    exact ⟨by rw [if_neg c7]; rfl, rfl, FrQ_of hF⟩

theorem K_extreme_x (hx : ¬ (isSz h s ∧ isPc h p)) : Ok 145 [vR 1, vI s, vI p, vI i] (LC N) h (fun o Λ' h' => o = .inr 2 ∧ Λ' = LC N ∧ FrQ h h') := by
  refine ok_body B_X8_extreme rfl (fun X hX => ?_)
  refine hX 80 [] 0 _ _ _ _ _ _ ?_
  refine Ok_ex (plPc_ex hx) ?_
  exact ⟨rfl, rfl, FrQ_rf h⟩

theorem K_shaping (hC : CI h) (hs : isSz h s) (hp : isPc h p) (hk : isPa h p k) (hm : k < mdN h s p) (hi : 0 ≤ i ∧ i < shp (gD h s p) k) : Ok 146 [vR 1, vI s, vI p, vI (k : Int), vI i] (LC N) h (fun o Λ' h' => o = .inl (some (vI (tp (gD h s p) k + ((i + 1) * kR (gD h s p) k).tdiv (shp (gD h s p) k) - 1))) ∧ Λ' = LC N ∧ FrQ h h') := by
  refine ok_body B_X8_shaping rfl (fun X hX => ?_)
  refine hX 80 [] 0 _ _ _ _ _ _ ?_
  refine Ok_mono (fun o' Λ' h' hpost => ?_) (plPt_ok hC hs hp hk (by omega))
  obtain ⟨rfl, rfl, hQ, hF⟩ := hpost
  refine And.intro (fun c9 => absurd c9 (by omega)) (fun c9 => ?_)
  refine Ok_rt (dShp (Or.inl rfl) hQ hm) ?_
  refine And.intro (fun c22 => ?_) (fun c22 => absurd c22 (by omega))
  refine Ok_rt (dShRow hQ hm hi) ?_
  exact ⟨rfl, rfl, FrQ_of hF⟩

theorem K_shaping_n (hC : CI h) (hs : isSz h s) (hp : isPc h p) (hk : isPa h p k) (hm : k < mdN h s p) (hi : ¬ (0 ≤ i ∧ i < shp (gD h s p) k)) : Ok 146 [vR 1, vI s, vI p, vI (k : Int), vI i] (LC N) h (fun o Λ' h' => o = .inr 4 ∧ Λ' = LC N ∧ FrQ h h') := by
  refine ok_body B_X8_shaping rfl (fun X hX => ?_)
  refine hX 80 [] 0 _ _ _ _ _ _ ?_
  refine Ok_mono (fun o' Λ' h' hpost => ?_) (plPt_ok hC hs hp hk (by omega))
  obtain ⟨rfl, rfl, hQ, hF⟩ := hpost
  refine And.intro (fun c9 => ⟨rfl, rfl, FrQ_of hF⟩) (fun c9 => ?_)
  refine Ok_rt (dShp (Or.inl rfl) hQ hm) ?_
  refine And.intro (fun c22 => absurd c22 (by omega)) (fun c22 => ⟨rfl, rfl, FrQ_of hF⟩)

def wdF (st g : Int) : UInt32 := FP.fdiv (FP.fmul (FP.i2f (Int32.ofInt st)) 1120403456) (FP.i2f (Int32.ofInt g))
def mnD (sm rw : Int) : UInt64 := FP.ddiv (FP.l2d (Int64.ofInt sm)) (FP.i2d (Int32.ofInt rw))
theorem K_width (hC : CI h) (hs : isSz h s) (hp : isPc h p) (hk : k < mdN h s p) (h1 : tp (gD h s p) k ≤ r) (h2 : r < tp (gD h s p) (k + 1)) (f1 : vf_n32 (FP.fmul (FP.i2f (Int32.ofInt (sS (gD h s p) k (r - tp (gD h s p) k)))) 1120403456)) (f2 : vf_n32 (wdF (sS (gD h s p) k (r - tp (gD h s p) k)) (rd (h 28) 132 0))) : Ok 147 [vR 1, vI s, vI p, vI r] (LC N) h (fun o Λ' h' => o = .inl (some (vF (wdF (sS (gD h s p) k (r - tp (gD h s p) k)) (rd (h 28) 132 0)))) ∧ Λ' = LC N ∧ FrQ h h') := by
  refine ok_body B_X8_width rfl (fun X hX => ?_)
  refine hX 80 [] 0 _ _ _ _ _ _ ?_
  have hr := rw_in hC hs hp hk h1 h2
  refine Ok_mono (fun o' Λ' h' hpost => ?_) (plRw_ok hC hs hp hr)
  obtain ⟨rfl, rfl, hQ, hF⟩ := hpost
  have cl := cell_ok (N := N) (h := h') (i := 0) (o := 27) (Or.inr (Or.inl rfl))
  have ecl : rdA h' (27 + 1) 132 0 = rd (h 28) 132 0 := by rw [← hF 28 (by decide)]; rfl
  rw [ecl] at cl
  refine Ok_rt cl ?_
  have g5 := hC.2.1
  refine And.intro (fun c20 => ?_) (fun c20 => absurd c20 (by omega))
  refine Ok_rt (dSt (Or.inl rfl) hQ hk h1 h2) ?_
  refine And.intro f1 ?_
  refine And.intro f2 ?_
  exact ⟨rfl, rfl, FrQ_of hF⟩

theorem K_mean (hC : CI h) (hs : isSz h s) (hp : isPc h p) (hr : 1 ≤ rwN h s p) (f1 : vf_n64 (mnD (sAll (gD h s p) (mdN h s p) 0 0) (rwN h s p))) : Ok 148 [vR 1, vI s, vI p] (LC N) h (fun o Λ' h' => o = .inl (some (vD (mnD (sAll (gD h s p) (mdN h s p) 0 0) (rwN h s p)))) ∧ Λ' = LC N ∧ FrQ h h') := by
  refine ok_body B_X8_mean rfl (fun X hX => ?_)
  refine hX 80 [] 0 _ _ _ _ _ _ ?_
  refine Ok_mono (fun o' Λ' h' hpost => ?_) (plPc_ok hC hs hp)
  obtain ⟨rfl, rfl, hQ, hF⟩ := hpost
  have e7 : h' 31 7 = rwN h s p := hQ.1.2.2.1
  rw [← e7] at hr f1
  refine And.intro (fun c14 => ?_) (fun c14 => absurd hr (Int.not_le.mpr c14))
  refine Ok_rt (stSum_ok hQ) ?_
  refine And.intro f1 ?_
  exact ⟨by rw [← e7]; rfl, rfl, FrQ_of hF⟩

theorem K_mean_x (hx : ¬ (isSz h s ∧ isPc h p)) : Ok 148 [vR 1, vI s, vI p] (LC N) h (fun o Λ' h' => o = .inr 2 ∧ Λ' = LC N ∧ FrQ h h') := by
  refine ok_body B_X8_mean rfl (fun X hX => ?_)
  refine hX 80 [] 0 _ _ _ _ _ _ ?_
  refine Ok_ex (plPc_ex hx) ?_
  exact ⟨rfl, rfl, FrQ_rf h⟩

theorem K_need (hC : CI h) (hs : isSz h s) (hp : isPc h p) (hc : 0 ≤ c ∧ c ≤ 3) : Ok 149 [vR 1, vI s, vI p, vI c] (LC N) h (fun o Λ' h' => o = .inl (some (vL (nCol h s p c))) ∧ Λ' = LC N ∧ FrQ h h') := by
  refine ok_body B_X8_need rfl (fun X hX => ?_)
  refine hX 80 [] 0 _ _ _ _ _ _ ?_
  have hyn := hC.2.2.2.1
  refine Ok_mono (fun o' Λ' h' hpost => ?_) (plPc_ok hC hs hp)
  obtain ⟨rfl, rfl, hQ, hF⟩ := hpost
  refine Ok_rt (ckR_ok hc) ?_
  refine Ok_rt (stSumIn_ok (i := c) hQ) ?_
  have cl := cell_ok (N := N) (h := h') (i := 2) (o := 27) (Or.inr (Or.inl rfl))
  have ecl : rdA h' (27 + 1) 132 2 = rd (h 28) 132 2 := by rw [← hF 28 (by decide)]; rfl
  rw [ecl] at cl
  refine Ok_rt cl ?_
  have mdn := (md_spec (gD h s p) (gN h p)).1
  have n10 := hQ.2.2.2.2
  have sb := sCol_bd (c := c) hQ.2.2.1 (md (gD h s p) (gN h p)) 0 0 (by omega) (by omega) (by omega)
  have mb := mul_bd (a := sCol (gD h s p) c (md (gD h s p) (gN h p)) 0 0 + 3000000000) (b := rd (h 28) 132 2) (A := 23000000000) (B := 99) (by omega) (by omega) (by omega) (by omega)
  rw [Int.add_mul] at mb
  refine And.intro (show inRL (sCol (gD h s p) c (md (gD h s p) (gN h p)) 0 0 * rd (h 28) 132 2) from ⟨by omega, by omega⟩) ?_
  exact ⟨rfl, rfl, FrQ_of hF⟩

theorem K_need_x (hx : ¬ (isSz h s ∧ isPc h p)) : Ok 149 [vR 1, vI s, vI p, vI c] (LC N) h (fun o Λ' h' => o = .inr 2 ∧ Λ' = LC N ∧ FrQ h h') := by
  refine ok_body B_X8_need rfl (fun X hX => ?_)
  refine hX 80 [] 0 _ _ _ _ _ _ ?_
  refine Ok_ex (plPc_ex hx) ?_
  exact ⟨rfl, rfl, FrQ_rf h⟩

theorem K_need_c (hC : CI h) (hs : isSz h s) (hp : isPc h p) (hc : ¬ (0 ≤ c ∧ c ≤ 3)) : Ok 149 [vR 1, vI s, vI p, vI c] (LC N) h (fun o Λ' h' => o = .inr 3 ∧ Λ' = LC N ∧ FrQ h h') := by
  refine ok_body B_X8_need rfl (fun X hX => ?_)
  refine hX 80 [] 0 _ _ _ _ _ _ ?_
  refine Ok_mono (fun o' Λ' h' hpost => ?_) (plPc_ok hC hs hp)
  obtain ⟨rfl, rfl, hQ, hF⟩ := hpost
  refine Ok_ex (ckR_ex hc) ?_
  exact ⟨rfl, rfl, FrQ_of hF⟩

end ASK
