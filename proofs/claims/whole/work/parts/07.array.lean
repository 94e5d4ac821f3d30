/-! ===== arrays, constants, switches (by wip/whole/gen07.py) ===== -/
section STEP
variable {p : Program} {l : Launch} {e : Env} {R : Room} {s : State} {m : MethodId} {args : Array Value} {below : List Frame} {meth : Method} {c : Code} {Q : State → Prop}
variable {g : GE} {ad0 : Nat → Nat} {Λ0 : List CT} {h0 : HP} {A0 : Nat → Prop} {cc : ByteArray} {nL : Nat} {own : String}
theorem upd_of (f : Nat → Int) (i : Nat) (x : Int) : (fun j => Int32.ofInt (if j = i then x else f j)) = upd (fun j => Int32.ofInt (f j)) i (Int32.ofInt x) := by
  funext j; unfold upd; split <;> rfl
theorem updL_of (f : Nat → Int) (i : Nat) (x : Int) : (fun j => Int64.ofInt (if j = i then x else f j)) = vp_updL (fun j => Int64.ofInt (f j)) i (Int64.ofInt x) := by
  funext j; unfold vp_updL; split <;> rfl
theorem updD_of (f : Nat → Int) (i : Nat) (x : UInt64) : (fun j => UInt64.ofNat (if j = i then (x.toNat : Int) else f j).toNat) = vf_upd (fun j => UInt64.ofNat (f j).toNat) i x := by
  funext j; unfold vf_upd; split
  · simp
  · rfl
theorem up_self (h : HP) (i j : Nat) (x : Int) : up h i j x i = fun b => if b = j then x else h i b := by funext b; simp [up]
theorem up_other (h : HP) {i i' : Nat} (j : Nat) (x : Int) (n : i' ≠ i) : up h i j x i' = h i' := by funext b; simp [up, n]
theorem vnb {x : Int} (h1 : -128 ≤ x) (h2 : x ≤ 127) : vp_nar .byte (Int32.ofInt x) = Int32.ofInt x := by
  rw [vp_nar_byte]
  refine i_inj ?_
  rw [Int8.toInt_toInt32]
  have e : (Int32.ofInt x).toInt8 = Int8.ofInt x := by
    rw [← Int8.toInt_inj, Int32.toInt_toInt8, i_to ⟨by omega, by omega⟩, Int8.toInt_ofInt]
  rw [e]
  exact Int8.toInt_ofInt_of_le (by omega) (by omega)
theorem vnz {x : Int} (h1 : 0 ≤ x) (h2 : x ≤ 1) : vp_nar .boolean (Int32.ofInt x) = Int32.ofInt x := by
  have : x = 0 ∨ x = 1 := by omega
  rcases this with rfl | rfl <;> rfl
theorem ts_iaload0 (C : CX p l s m args meth c g ad0 h0 A0 cc nL own) {pc k n : Nat} {L st : List PV} {Λ : List CT} {h : HP} {a len : Nat} {i : Int} (hdg : decode cc pc = .ok (.iaload, 1)) (hc : cell Λ a = some (.inr (0, len))) (hs : (0 ≤ i ∧ i < (len : Int)) ∧ XW p l e R s m args below meth c Q g ad0 Λ0 h0 A0 nL (pc + 1) L (vI (h a i.toNat) :: st) Λ h k n) : XW p l e R s m args below meth c Q g ad0 Λ0 h0 A0 nL pc L (vI i :: vR a :: st) Λ h k n := by
  obtain ⟨hx, hb, -, -, -, -, hK, -⟩ := C
  intro ad ls H locs hM hL hst
  obtain ⟨i1, rfl, hi⟩ := cell_at hc
  have hw := cw_get g ad h hi
  have hir : inR i := hst (vI i) List.mem_cons_self
  have hcr := hM.2.2.2.1 i1 _ hi
  show W p l e R s m args below meth c H locs k n Q (F0 m pc ls (.int (Int32.ofInt i) :: .ref (ad (i1 + 1)) :: st.map (cv ad)))
  refine va_iald hx hb hK hM.1 i1 0 hw rfl (i_in hs.1.1 hir.2 hs.1.2) hdg ?_
  rw [i_clamp hs.1.1 hir.2]
  exact hs.2 ad ls H locs hM hL (okc (hcr.1 i.toNat) (fun v hv => hst v (List.mem_cons_of_mem _ (List.mem_cons_of_mem _ hv))))
theorem ts_baload2 (C : CX p l s m args meth c g ad0 h0 A0 cc nL own) {pc k n : Nat} {L st : List PV} {Λ : List CT} {h : HP} {a len : Nat} {i : Int} (hdg : decode cc pc = .ok (.baload, 1)) (hc : cell Λ a = some (.inr (2, len))) (hs : (0 ≤ i ∧ i < (len : Int)) ∧ XW p l e R s m args below meth c Q g ad0 Λ0 h0 A0 nL (pc + 1) L (vI (h a i.toNat) :: st) Λ h k n) : XW p l e R s m args below meth c Q g ad0 Λ0 h0 A0 nL pc L (vI i :: vR a :: st) Λ h k n := by
  obtain ⟨hx, hb, -, -, -, -, hK, -⟩ := C
  intro ad ls H locs hM hL hst
  obtain ⟨i1, rfl, hi⟩ := cell_at hc
  have hw := cw_get g ad h hi
  have hir : inR i := hst (vI i) List.mem_cons_self
  have hcr := hM.2.2.2.1 i1 _ hi
  show W p l e R s m args below meth c H locs k n Q (F0 m pc ls (.int (Int32.ofInt i) :: .ref (ad (i1 + 1)) :: st.map (cv ad)))
  refine va_bald hx hb hK hM.1 i1 2 hw rfl (i_in hs.1.1 hir.2 hs.1.2) hdg ?_
  rw [i_clamp hs.1.1 hir.2]
  exact hs.2 ad ls H locs hM hL (okc (hcr.1 i.toNat) (fun v hv => hst v (List.mem_cons_of_mem _ (List.mem_cons_of_mem _ hv))))
theorem ts_baload3 (C : CX p l s m args meth c g ad0 h0 A0 cc nL own) {pc k n : Nat} {L st : List PV} {Λ : List CT} {h : HP} {a len : Nat} {i : Int} (hdg : decode cc pc = .ok (.baload, 1)) (hc : cell Λ a = some (.inr (3, len))) (hs : (0 ≤ i ∧ i < (len : Int)) ∧ XW p l e R s m args below meth c Q g ad0 Λ0 h0 A0 nL (pc + 1) L (vI (h a i.toNat) :: st) Λ h k n) : XW p l e R s m args below meth c Q g ad0 Λ0 h0 A0 nL pc L (vI i :: vR a :: st) Λ h k n := by
  obtain ⟨hx, hb, -, -, -, -, hK, -⟩ := C
  intro ad ls H locs hM hL hst
  obtain ⟨i1, rfl, hi⟩ := cell_at hc
  have hw := cw_get g ad h hi
  have hir : inR i := hst (vI i) List.mem_cons_self
  have hcr := hM.2.2.2.1 i1 _ hi
  show W p l e R s m args below meth c H locs k n Q (F0 m pc ls (.int (Int32.ofInt i) :: .ref (ad (i1 + 1)) :: st.map (cv ad)))
  refine va_zald hx hb hK hM.1 i1 3 hw rfl (i_in hs.1.1 hir.2 hs.1.2) hdg ?_
  rw [i_clamp hs.1.1 hir.2]
  exact hs.2 ad ls H locs hM hL (okc (hcr.1 i.toNat) (fun v hv => hst v (List.mem_cons_of_mem _ (List.mem_cons_of_mem _ hv))))
theorem ts_laload1 (C : CX p l s m args meth c g ad0 h0 A0 cc nL own) {pc k n : Nat} {L st : List PV} {Λ : List CT} {h : HP} {a len : Nat} {i : Int} (hdg : decode cc pc = .ok (.laload, 1)) (hc : cell Λ a = some (.inr (1, len))) (hs : (0 ≤ i ∧ i < (len : Int)) ∧ XW p l e R s m args below meth c Q g ad0 Λ0 h0 A0 nL (pc + 1) L (vL (h a i.toNat) :: st) Λ h k n) : XW p l e R s m args below meth c Q g ad0 Λ0 h0 A0 nL pc L (vI i :: vR a :: st) Λ h k n := by
  obtain ⟨hx, hb, -, -, -, -, hK, -⟩ := C
  intro ad ls H locs hM hL hst
  obtain ⟨i1, rfl, hi⟩ := cell_at hc
  have hw := cw_get g ad h hi
  have hir : inR i := hst (vI i) List.mem_cons_self
  have hcr := hM.2.2.2.1 i1 _ hi
  show W p l e R s m args below meth c H locs k n Q (F0 m pc ls (.int (Int32.ofInt i) :: .ref (ad (i1 + 1)) :: st.map (cv ad)))
  refine va_lald hx hb hK hM.1 i1 1 hw rfl (i_in hs.1.1 hir.2 hs.1.2) hdg ?_
  rw [i_clamp hs.1.1 hir.2]
  exact hs.2 ad ls H locs hM hL (okc (hcr i.toNat) (fun v hv => hst v (List.mem_cons_of_mem _ (List.mem_cons_of_mem _ hv))))
theorem ts_daload4 (C : CX p l s m args meth c g ad0 h0 A0 cc nL own) {pc k n : Nat} {L st : List PV} {Λ : List CT} {h : HP} {a len : Nat} {i : Int} (hdg : decode cc pc = .ok (.daload, 1)) (hc : cell Λ a = some (.inr (4, len))) (hs : (0 ≤ i ∧ i < (len : Int)) ∧ XW p l e R s m args below meth c Q g ad0 Λ0 h0 A0 nL (pc + 1) L (vD (UInt64.ofNat (h a i.toNat).toNat) :: st) Λ h k n) : XW p l e R s m args below meth c Q g ad0 Λ0 h0 A0 nL pc L (vI i :: vR a :: st) Λ h k n := by
  obtain ⟨hx, hb, -, -, -, -, hK, -⟩ := C
  intro ad ls H locs hM hL hst
  obtain ⟨i1, rfl, hi⟩ := cell_at hc
  have hw := cw_get g ad h hi
  have hir : inR i := hst (vI i) List.mem_cons_self
  have hcr := hM.2.2.2.1 i1 _ hi
  show W p l e R s m args below meth c H locs k n Q (F0 m pc ls (.int (Int32.ofInt i) :: .ref (ad (i1 + 1)) :: st.map (cv ad)))
  refine va_dald hx hb hK hM.1 i1 4 hw rfl (i_in hs.1.1 hir.2 hs.1.2) hdg ?_
  rw [i_clamp hs.1.1 hir.2]
  exact hs.2 ad ls H locs hM hL (okc trivial (fun v hv => hst v (List.mem_cons_of_mem _ (List.mem_cons_of_mem _ hv))))
theorem ts_iastore0 (C : CX p l s m args meth c g ad0 h0 A0 cc nL own) {pc k n : Nat} {L st : List PV} {Λ : List CT} {h : HP} {a len : Nat} {i : Int} {x : Int} (hdg : decode cc pc = .ok (.iastore, 1)) (hc : cell Λ a = some (.inr (0, len))) (hs : (0 ≤ i ∧ i < (len : Int)) ∧ XW p l e R s m args below meth c Q g ad0 Λ0 h0 A0 nL (pc + 1) L st Λ (up h a i.toNat x) k n) : XW p l e R s m args below meth c Q g ad0 Λ0 h0 A0 nL pc L (vI x :: vI i :: vR a :: st) Λ h k n := by
  obtain ⟨hx, hb, -, -, -, -, hK, -⟩ := C
  intro ad ls H locs hM hL hst
  obtain ⟨i1, rfl, hi⟩ := cell_at hc
  have hw := cw_get g ad h hi
  have hir : inR i := hst (vI i) (List.mem_cons_of_mem _ List.mem_cons_self)
  have hxr : okv Λ.length (vI x) := hst (vI x) List.mem_cons_self
  have hcr := hM.2.2.2.1 i1 _ hi
  have hself := up_self h (i1 + 1) i.toNat x
  have hr : hrc Λ.length (.inr (0, len)) (up h (i1 + 1) i.toNat x (i1 + 1)) := by
    rw [hself]
    refine ⟨fun j => ?_, hcr.2⟩
    by_cases z : j = i.toNat
    · simp only [if_pos z]; exact hxr
    · simp only [if_neg z]; exact hcr.1 j
  have he : ce g ad (.inr (0, len)) (up h (i1 + 1) i.toNat x (i1 + 1)) = .inl (g.2.1 0, len, .inl (upd (fun j => Int32.ofInt (h (i1 + 1) j)) i.toNat (Int32.ofInt x))) := by
    rw [hself]
    show Sum.inl _ = Sum.inl _
    rw [← upd_of]
  show W p l e R s m args below meth c H locs k n Q (F0 m pc ls (.int (Int32.ofInt x) :: .int (Int32.ofInt i) :: .ref (ad (i1 + 1)) :: st.map (cv ad)))
  refine va_iast hx hb hK hM.1 hM.2.1 hM.2.2.1 i1 0 hw rfl (i_in hs.1.1 hir.2 hs.1.2) hdg (fun H1 locs1 hP1 hD1 hS1 => ?_)
  rw [i_clamp hs.1.1 hir.2] at hP1 hD1
  rw [← he] at hP1 hD1
  exact hs.2 ad ls H1 locs1 (MR_up hM hi hP1 hD1 hS1 hr (fun j hj => up_other h _ _ hj)) hL (fun v hv => hst v (List.mem_cons_of_mem _ (List.mem_cons_of_mem _ (List.mem_cons_of_mem _ hv))))
theorem ts_bastore2 (C : CX p l s m args meth c g ad0 h0 A0 cc nL own) {pc k n : Nat} {L st : List PV} {Λ : List CT} {h : HP} {a len : Nat} {i : Int} {x : Int} (hdg : decode cc pc = .ok (.bastore, 1)) (hc : cell Λ a = some (.inr (2, len))) (hs : ((0 ≤ i ∧ i < (len : Int)) ∧ (-128 ≤ x ∧ x ≤ 127)) ∧ XW p l e R s m args below meth c Q g ad0 Λ0 h0 A0 nL (pc + 1) L st Λ (up h a i.toNat x) k n) : XW p l e R s m args below meth c Q g ad0 Λ0 h0 A0 nL pc L (vI x :: vI i :: vR a :: st) Λ h k n := by
  obtain ⟨hx, hb, -, -, -, -, hK, -⟩ := C
  intro ad ls H locs hM hL hst
  obtain ⟨i1, rfl, hi⟩ := cell_at hc
  have hw := cw_get g ad h hi
  have hir : inR i := hst (vI i) (List.mem_cons_of_mem _ List.mem_cons_self)
  have hxr : okv Λ.length (vI x) := hst (vI x) List.mem_cons_self
  have hcr := hM.2.2.2.1 i1 _ hi
  have hself := up_self h (i1 + 1) i.toNat x
  have hr : hrc Λ.length (.inr (2, len)) (up h (i1 + 1) i.toNat x (i1 + 1)) := by
    rw [hself]
    refine ⟨fun j => ?_, hcr.2⟩
    by_cases z : j = i.toNat
    · simp only [if_pos z]; exact hxr
    · simp only [if_neg z]; exact hcr.1 j
  have he : ce g ad (.inr (2, len)) (up h (i1 + 1) i.toNat x (i1 + 1)) = .inl (g.2.1 2, len, .inl (upd (fun j => Int32.ofInt (h (i1 + 1) j)) i.toNat (Int32.ofInt x))) := by
    rw [hself]
    show Sum.inl _ = Sum.inl _
    rw [← upd_of]
  show W p l e R s m args below meth c H locs k n Q (F0 m pc ls (.int (Int32.ofInt x) :: .int (Int32.ofInt i) :: .ref (ad (i1 + 1)) :: st.map (cv ad)))
  refine va_bast hx hb hK hM.1 hM.2.1 hM.2.2.1 i1 2 hw rfl (i_in hs.1.1.1 hir.2 hs.1.1.2) hdg (fun H1 locs1 hP1 hD1 hS1 => ?_)
  rw [i_clamp hs.1.1.1 hir.2] at hP1 hD1
  rw [vnb hs.1.2.1 hs.1.2.2] at hP1 hD1
  rw [← he] at hP1 hD1
  exact hs.2 ad ls H1 locs1 (MR_up hM hi hP1 hD1 hS1 hr (fun j hj => up_other h _ _ hj)) hL (fun v hv => hst v (List.mem_cons_of_mem _ (List.mem_cons_of_mem _ (List.mem_cons_of_mem _ hv))))
theorem ts_bastore3 (C : CX p l s m args meth c g ad0 h0 A0 cc nL own) {pc k n : Nat} {L st : List PV} {Λ : List CT} {h : HP} {a len : Nat} {i : Int} {x : Int} (hdg : decode cc pc = .ok (.bastore, 1)) (hc : cell Λ a = some (.inr (3, len))) (hs : ((0 ≤ i ∧ i < (len : Int)) ∧ (0 ≤ x ∧ x ≤ 1)) ∧ XW p l e R s m args below meth c Q g ad0 Λ0 h0 A0 nL (pc + 1) L st Λ (up h a i.toNat x) k n) : XW p l e R s m args below meth c Q g ad0 Λ0 h0 A0 nL pc L (vI x :: vI i :: vR a :: st) Λ h k n := by
  obtain ⟨hx, hb, -, -, -, -, hK, -⟩ := C
  intro ad ls H locs hM hL hst
  obtain ⟨i1, rfl, hi⟩ := cell_at hc
  have hw := cw_get g ad h hi
  have hir : inR i := hst (vI i) (List.mem_cons_of_mem _ List.mem_cons_self)
  have hxr : okv Λ.length (vI x) := hst (vI x) List.mem_cons_self
  have hcr := hM.2.2.2.1 i1 _ hi
  have hself := up_self h (i1 + 1) i.toNat x
  have hr : hrc Λ.length (.inr (3, len)) (up h (i1 + 1) i.toNat x (i1 + 1)) := by
    rw [hself]
    refine ⟨fun j => ?_, hcr.2⟩
    by_cases z : j = i.toNat
    · simp only [if_pos z]; exact hxr
    · simp only [if_neg z]; exact hcr.1 j
  have he : ce g ad (.inr (3, len)) (up h (i1 + 1) i.toNat x (i1 + 1)) = .inl (g.2.1 3, len, .inl (upd (fun j => Int32.ofInt (h (i1 + 1) j)) i.toNat (Int32.ofInt x))) := by
    rw [hself]
    show Sum.inl _ = Sum.inl _
    rw [← upd_of]
  show W p l e R s m args below meth c H locs k n Q (F0 m pc ls (.int (Int32.ofInt x) :: .int (Int32.ofInt i) :: .ref (ad (i1 + 1)) :: st.map (cv ad)))
  refine va_zast hx hb hK hM.1 hM.2.1 hM.2.2.1 i1 3 hw rfl (i_in hs.1.1.1 hir.2 hs.1.1.2) hdg (fun H1 locs1 hP1 hD1 hS1 => ?_)
  rw [i_clamp hs.1.1.1 hir.2] at hP1 hD1
  rw [vnz hs.1.2.1 hs.1.2.2] at hP1 hD1
  rw [← he] at hP1 hD1
  exact hs.2 ad ls H1 locs1 (MR_up hM hi hP1 hD1 hS1 hr (fun j hj => up_other h _ _ hj)) hL (fun v hv => hst v (List.mem_cons_of_mem _ (List.mem_cons_of_mem _ (List.mem_cons_of_mem _ hv))))
theorem ts_lastore1 (C : CX p l s m args meth c g ad0 h0 A0 cc nL own) {pc k n : Nat} {L st : List PV} {Λ : List CT} {h : HP} {a len : Nat} {i : Int} {x : Int} (hdg : decode cc pc = .ok (.lastore, 1)) (hc : cell Λ a = some (.inr (1, len))) (hs : (0 ≤ i ∧ i < (len : Int)) ∧ XW p l e R s m args below meth c Q g ad0 Λ0 h0 A0 nL (pc + 1) L st Λ (up h a i.toNat x) k n) : XW p l e R s m args below meth c Q g ad0 Λ0 h0 A0 nL pc L (vL x :: vI i :: vR a :: st) Λ h k n := by
  obtain ⟨hx, hb, -, -, -, -, hK, -⟩ := C
  intro ad ls H locs hM hL hst
  obtain ⟨i1, rfl, hi⟩ := cell_at hc
  have hw := cw_get g ad h hi
  have hir : inR i := hst (vI i) (List.mem_cons_of_mem _ List.mem_cons_self)
  have hxr : okv Λ.length (vL x) := hst (vL x) List.mem_cons_self
  have hcr := hM.2.2.2.1 i1 _ hi
  have hself := up_self h (i1 + 1) i.toNat x
  have hr : hrc Λ.length (.inr (1, len)) (up h (i1 + 1) i.toNat x (i1 + 1)) := by
    rw [hself]
    intro j
    by_cases z : j = i.toNat
    · simp only [if_pos z]; exact hxr
    · simp only [if_neg z]; exact hcr j
  have he : ce g ad (.inr (1, len)) (up h (i1 + 1) i.toNat x (i1 + 1)) = .inl (g.2.1 1, len, .inr (.inl (vp_updL (fun j => Int64.ofInt (h (i1 + 1) j)) i.toNat (Int64.ofInt x)))) := by
    rw [hself]
    show Sum.inl _ = Sum.inl _
    rw [← updL_of]
  show W p l e R s m args below meth c H locs k n Q (F0 m pc ls (.long (Int64.ofInt x) :: .int (Int32.ofInt i) :: .ref (ad (i1 + 1)) :: st.map (cv ad)))
  refine va_last hx hb hK hM.1 hM.2.1 hM.2.2.1 i1 1 hw rfl (i_in hs.1.1 hir.2 hs.1.2) hdg (fun H1 locs1 hP1 hD1 hS1 => ?_)
  rw [i_clamp hs.1.1 hir.2] at hP1 hD1
  rw [← he] at hP1 hD1
  exact hs.2 ad ls H1 locs1 (MR_up hM hi hP1 hD1 hS1 hr (fun j hj => up_other h _ _ hj)) hL (fun v hv => hst v (List.mem_cons_of_mem _ (List.mem_cons_of_mem _ (List.mem_cons_of_mem _ hv))))
theorem ts_dastore4 (C : CX p l s m args meth c g ad0 h0 A0 cc nL own) {pc k n : Nat} {L st : List PV} {Λ : List CT} {h : HP} {a len : Nat} {i : Int} {x : UInt64} (hdg : decode cc pc = .ok (.dastore, 1)) (hc : cell Λ a = some (.inr (4, len))) (hs : (0 ≤ i ∧ i < (len : Int)) ∧ XW p l e R s m args below meth c Q g ad0 Λ0 h0 A0 nL (pc + 1) L st Λ (up h a i.toNat (x.toNat : Int)) k n) : XW p l e R s m args below meth c Q g ad0 Λ0 h0 A0 nL pc L (vD x :: vI i :: vR a :: st) Λ h k n := by
  obtain ⟨hx, hb, -, -, -, -, hK, -⟩ := C
  intro ad ls H locs hM hL hst
  obtain ⟨i1, rfl, hi⟩ := cell_at hc
  have hw := cw_get g ad h hi
  have hir : inR i := hst (vI i) (List.mem_cons_of_mem _ List.mem_cons_self)
  have hxr : okv Λ.length (vD x) := hst (vD x) List.mem_cons_self
  have hcr := hM.2.2.2.1 i1 _ hi
  have hself := up_self h (i1 + 1) i.toNat (x.toNat : Int)
  have hr : hrc Λ.length (.inr (4, len)) (up h (i1 + 1) i.toNat (x.toNat : Int) (i1 + 1)) := by
    rw [hself]
    exact trivial
  have he : ce g ad (.inr (4, len)) (up h (i1 + 1) i.toNat (x.toNat : Int) (i1 + 1)) = .inl (g.2.1 4, len, .inr (.inr (.inr (.inl (vf_upd (fun j => UInt64.ofNat (h (i1 + 1) j).toNat) i.toNat x))))) := by
    rw [hself]
    show Sum.inl _ = Sum.inl _
    rw [← updD_of]
  show W p l e R s m args below meth c H locs k n Q (F0 m pc ls (.double x :: .int (Int32.ofInt i) :: .ref (ad (i1 + 1)) :: st.map (cv ad)))
  refine va_dast hx hb hK hM.1 hM.2.1 hM.2.2.1 i1 4 hw rfl (i_in hs.1.1 hir.2 hs.1.2) hdg (fun H1 locs1 hP1 hD1 hS1 => ?_)
  rw [i_clamp hs.1.1 hir.2] at hP1 hD1
  rw [← he] at hP1 hD1
  exact hs.2 ad ls H1 locs1 (MR_up hM hi hP1 hD1 hS1 hr (fun j hj => up_other h _ _ hj)) hL (fun v hv => hst v (List.mem_cons_of_mem _ (List.mem_cons_of_mem _ (List.mem_cons_of_mem _ hv))))
theorem ts_alen (C : CX p l s m args meth c g ad0 h0 A0 cc nL own) {pc k n : Nat} {L st : List PV} {Λ : List CT} {h : HP} {a len kd : Nat} (hdg : decode cc pc = .ok (.arraylength, 1)) (hc : cell Λ a = some (.inr (kd, len))) (hln : Nat.ble len 2147483647 = true) (hs : XW p l e R s m args below meth c Q g ad0 Λ0 h0 A0 nL (pc + 1) L (vI (len : Int) :: st) Λ h k n) : XW p l e R s m args below meth c Q g ad0 Λ0 h0 A0 nL pc L (vR a :: st) Λ h k n := by
  obtain ⟨hx, hb, -, -, -, -, hK, -⟩ := C
  intro ad ls H locs hM hL hst
  obtain ⟨i1, rfl, hi⟩ := cell_at hc
  have hw := cw_get g ad h hi
  have hcr := hM.2.2.2.1 i1 _ hi
  have hl9 := Nat.le_of_ble_eq_true hln
  have hgo := hs ad ls H locs hM hL (okc (show inR (len : Int) from ⟨by omega, by omega⟩) (fun v hv => hst v (List.mem_cons_of_mem _ hv)))
  show W p l e R s m args below meth c H locs k n Q (F0 m pc ls (.ref (ad (i1 + 1)) :: st.map (cv ad)))
  have hlen : Int32.ofNat len = Int32.ofInt (len : Int) := rfl
  match kd, hw, hcr with
  | 0, hw, _ => exact va_alen hx hb hK hM.1 i1 0 hw (ty := .int) rfl hlen hdg hgo
  | 1, hw, _ => exact va_alen hx hb hK hM.1 i1 1 hw (ty := .long) rfl hlen hdg hgo
  | 2, hw, _ => exact va_alen hx hb hK hM.1 i1 2 hw (ty := .byte) rfl hlen hdg hgo
  | 3, hw, _ => exact va_alen hx hb hK hM.1 i1 3 hw (ty := .boolean) rfl hlen hdg hgo
  | 4, hw, _ => exact va_alen hx hb hK hM.1 i1 4 hw (ty := .double) rfl hlen hdg hgo
  | kd + 5, _, hcr => exact absurd hcr.2 (by omega)
/-- the script -/
theorem ts_slen (C : CX p l s m args meth c g ad0 h0 A0 cc nL own) {pc k n : Nat} {L st : List PV} {Λ : List CT} {h : HP} (hdg : decode cc pc = .ok (.arraylength, 1)) (hs : XW p l e R s m args below meth c Q g ad0 Λ0 h0 A0 nL (pc + 1) L (vI (h 901 0) :: st) Λ h k n) : XW p l e R s m args below meth c Q g ad0 Λ0 h0 A0 nL pc L (vR 900 :: st) Λ h k n := by
  obtain ⟨hx, hb, -, -, -, -, hK, hE, -, -, hado⟩ := C
  intro ad ls H locs hM hL hst
  obtain ⟨-, -, -, -, -, -, -, -, hX, hbA, hbl⟩ := hE
  obtain ⟨-, a2, a3, a4, a5⟩ := hado
  have e9 : h 901 = h0 901 := hM.2.2.2.2.2.2.2 901 (by omega)
  have h9 : h 901 0 = (g.2.2.2.2.2.1 : Int) := by rw [e9]; exact a4
  have ea : ad 900 = g.2.2.2.2.1 := by rw [hM.2.2.2.2.2.2.1 900 (Or.inr (by omega))]; exact a2
  rw [h9] at hs
  show W p l e R s m args below meth c H locs k n Q (F0 m pc ls (.ref (ad 900) :: st.map (cv ad)))
  rw [ea]
  exact va_slen hx hb hX hbl hbA hM.2.2.1 hdg (hs ad ls H locs hM hL (okc (show inR _ from ⟨by omega, by omega⟩) (fun v hv => hst v (List.mem_cons_of_mem _ hv))))
theorem ts_sld (C : CX p l s m args meth c g ad0 h0 A0 cc nL own) {pc k n : Nat} {L st : List PV} {Λ : List CT} {h : HP} {i : Int} (hdg : decode cc pc = .ok (.iaload, 1)) (hs : (0 ≤ i ∧ i < h 901 0) ∧ XW p l e R s m args below meth c Q g ad0 Λ0 h0 A0 nL (pc + 1) L (vI (h 900 i.toNat) :: st) Λ h k n) : XW p l e R s m args below meth c Q g ad0 Λ0 h0 A0 nL pc L (vI i :: vR 900 :: st) Λ h k n := by
  obtain ⟨hx, hb, -, -, -, -, hK, hE, -, -, hado⟩ := C
  intro ad ls H locs hM hL hst
  obtain ⟨-, -, -, -, -, -, -, -, hX, hbA, hbl⟩ := hE
  obtain ⟨-, a2, a3, a4, a5⟩ := hado
  have h9 : h 901 0 = (g.2.2.2.2.2.1 : Int) := by rw [hM.2.2.2.2.2.2.2 901 (by omega)]; exact a4
  have ea : ad 900 = g.2.2.2.2.1 := by rw [hM.2.2.2.2.2.2.1 900 (Or.inr (by omega))]; exact a2
  rw [h9] at hs
  have hir : inR i := hst (vI i) List.mem_cons_self
  have hv : h 900 i.toNat = (g.2.2.2.2.2.2 i.toNat).toInt := by rw [hM.2.2.2.2.2.2.2 900 (by omega)]; exact a3 _ (by omega)
  rw [hv] at hs
  show W p l e R s m args below meth c H locs k n Q (F0 m pc ls (.int (Int32.ofInt i) :: .ref (ad 900) :: st.map (cv ad)))
  rw [ea]
  refine va_sld hx hb hX hbl hbA hM.2.2.1 (i_in hs.1.1 hir.2 hs.1.2) hdg ?_
  rw [i_clamp hs.1.1 hir.2, show g.2.2.2.2.2.2 i.toNat = Int32.ofInt (g.2.2.2.2.2.2 i.toNat).toInt from (i_of _).symm]
  exact hs.2 ad ls H locs hM hL (okc (i_rng _) (fun v hv => hst v (List.mem_cons_of_mem _ (List.mem_cons_of_mem _ hv))))
theorem ts_ldcI (C : CX p l s m args meth c g ad0 h0 A0 cc nL own) {pc k n idx : Nat} {L st : List PV} {Λ : List CT} {h : HP} {v : Int} (hw : Cond.constant own idx (Int32.ofInt v) ∈ TW) (hr : rb (-2147483648) 2147483647 v = true) (hdg : decode cc pc = .ok (.ldc idx, 2)) (hs : XW p l e R s m args below meth c Q g ad0 Λ0 h0 A0 nL (pc + 2) L (vI v :: st) Λ h k n) : XW p l e R s m args below meth c Q g ad0 Λ0 h0 A0 nL pc L st Λ h k n := by
  obtain ⟨hx, hb, -, hown, hts, -⟩ := C
  intro ad ls H locs hM hL hst
  exact lv_ldc hx hb hown (hts _ hw) hdg (hs ad ls H locs hM hL (okc (show inR v from ⟨(rb_of hr).1, (rb_of hr).2⟩) hst))
theorem ts_ldc2L (C : CX p l s m args meth c g ad0 h0 A0 cc nL own) {pc k n idx : Nat} {L st : List PV} {Λ : List CT} {h : HP} {v : Int} (hw : Cond.constantLong own idx (Int64.ofInt v) ∈ TW) (hr : rb (-9223372036854775808) 9223372036854775807 v = true) (hdg : decode cc pc = .ok (.ldc2_w idx, 3)) (hs : XW p l e R s m args below meth c Q g ad0 Λ0 h0 A0 nL (pc + 3) L (vL v :: st) Λ h k n) : XW p l e R s m args below meth c Q g ad0 Λ0 h0 A0 nL pc L st Λ h k n := by
  obtain ⟨hx, hb, -, hown, hts, -⟩ := C
  intro ad ls H locs hM hL hst
  exact lv_ldc2 hx hb hown (hts _ hw) hdg (hs ad ls H locs hM hL (okc (show inRL v from ⟨(rb_of hr).1, (rb_of hr).2⟩) hst))
theorem ts_ldcF (C : CX p l s m args meth c g ad0 h0 A0 cc nL own) {pc k n idx : Nat} {L st : List PV} {Λ : List CT} {h : HP} {v : UInt32} (hw : Cond.constantFloat own idx v ∈ TW) (hdg : decode cc pc = .ok (.ldc idx, 2)) (hs : XW p l e R s m args below meth c Q g ad0 Λ0 h0 A0 nL (pc + 2) L (vF v :: st) Λ h k n) : XW p l e R s m args below meth c Q g ad0 Λ0 h0 A0 nL pc L st Λ h k n := by
  obtain ⟨hx, hb, -, hown, hts, -⟩ := C
  intro ad ls H locs hM hL hst
  exact lv_ldcf hx hb hown (hts _ hw) hdg (hs ad ls H locs hM hL (okc trivial hst))
theorem ldcStringW {T : State} {locs : List Loc} {cells slots : Nat} (X : Stand p l e R s m args below meth c T locs cells slots) (hexec : p.tables.exec = Jvm.exec) {own text : String} {index : Nat} {a : Addr} (hown : s.vm.findClass own = some m.cls)
    (hconst : (Cond.stringRef own index text).before #[] s = true) (hev : (Term.string own index).eval #[] s none [] s = some (.ref a)) {g : JFrame} (hg : g.method = m) (hdg : decode c.code g.pc = .ok (.ldc_w index, 3)) :
    ∀ target, Steps p.tables e below (T.setTop { g with pc := g.pc + 3, stack := .ref a :: g.stack }) target → Steps p.tables e below (T.setTop g) target := by
  obtain ⟨k, cf, i, a', hk, hcf, hcp, -, hr, hev'⟩ := Cond.stringRef_spec hown hconst
  cases hev.symm.trans hev'
  obtain ⟨k', hk', he⟩ := X.warmed.alike.2.2 _ _ hk
  have hr' : k'.resolved[index]? = some (some (.string a)) := by
    rcases X.warmed.entry hk hk' index with h | ⟨h, -⟩
    · rw [h]; exact hr
    · rw [hr] at h; cases h
  intro target hrest
  subst hg
  jvm_step X.here [hexec, hdg, ldc_w.wp_string (e := e) (s := T) (f := g) X.here.top hk' (by rw [he]; exact hcf) hcp hr']
  exact hrest
theorem ldcFloatW {T : State} {locs : List Loc} {cells slots : Nat} (X : Stand p l e R s m args below meth c T locs cells slots) (hexec : p.tables.exec = Jvm.exec) {own : String} {index : Nat} {b : UInt32} (hown : s.vm.findClass own = some m.cls)
    (hconst : (Cond.constantFloat own index b).before args s = true) {g : JFrame} (hg : g.method = m) (hdg : decode c.code g.pc = .ok (.ldc_w index, 3)) :
    ∀ target, Steps p.tables e below (T.setTop { g with pc := g.pc + 3, stack := .float b :: g.stack }) target → Steps p.tables e below (T.setTop g) target := by
  obtain ⟨k, cf, hk, hcf, hc⟩ := Cond.constantFloat_spec hown hconst
  obtain ⟨k', hk', he⟩ := X.warmed.alike.2.2 _ _ hk
  intro target hrest
  subst hg
  jvm_step X.here [hexec, hdg, ldc_w.wp_float (s := T) (f := g) X.here.top hk' (by rw [he]; exact hcf) hc]
  exact hrest
theorem ts_ldcS (C : CX p l s m args meth c g ad0 h0 A0 cc nL own) {pc k n idx sid : Nat} {L st : List PV} {Λ : List CT} {h : HP} {tx : String} (hq : (own, idx, tx, sid) ∈ strR) (hsid : sid < nStr) (hdg : decode cc pc = .ok (.ldc idx, 2)) (hs : XW p l e R s m args below meth c Q g ad0 Λ0 h0 A0 nL (pc + 2) L (vR (1000 + sid) :: st) Λ h k n) : XW p l e R s m args below meth c Q g ad0 Λ0 h0 A0 nL pc L st Λ h k n := by
  obtain ⟨hx, hb, -, hown, hts, -, -, hE, -, -, hado⟩ := C
  intro ad ls H locs hM hL hst
  have ea : ad (1000 + sid) = g.2.2.1 sid := by rw [hM.2.2.2.2.2.2.1 (1000 + sid) (Or.inr (by omega))]; exact (hado.1 sid).1 hsid
  have hgo := hs ad ls H locs hM hL (okc (show scp Λ.length (1000 + sid) from Or.inr (by omega)) hst)
  have hgo : W p l e R s m args below meth c H locs k n Q (F0 m (pc + 2) ls (.ref (ad (1000 + sid)) :: st.map (cv ad))) := hgo
  rw [ea] at hgo
  exact va_ldcS hx hb hown (hE.1 _ hq) hdg hgo
theorem ts_ldcwS (C : CX p l s m args meth c g ad0 h0 A0 cc nL own) {pc k n idx sid : Nat} {L st : List PV} {Λ : List CT} {h : HP} {tx : String} (hq : (own, idx, tx, sid) ∈ strR) (hsid : sid < nStr) (hdg : decode cc pc = .ok (.ldc_w idx, 3)) (hs : XW p l e R s m args below meth c Q g ad0 Λ0 h0 A0 nL (pc + 3) L (vR (1000 + sid) :: st) Λ h k n) : XW p l e R s m args below meth c Q g ad0 Λ0 h0 A0 nL pc L st Λ h k n := by
  obtain ⟨hx, hb, -, hown, hts, -, -, hE, -, -, hado⟩ := C
  intro ad ls H locs hM hL hst
  have ea : ad (1000 + sid) = g.2.2.1 sid := by rw [hM.2.2.2.2.2.2.1 (1000 + sid) (Or.inr (by omega))]; exact (hado.1 sid).1 hsid
  have hgo := hs ad ls H locs hM hL (okc (show scp Λ.length (1000 + sid) from Or.inr (by omega)) hst)
  have hgo : W p l e R s m args below meth c H locs k n Q (F0 m (pc + 3) ls (.ref (ad (1000 + sid)) :: st.map (cv ad))) := hgo
  rw [ea] at hgo
  have hZ := hE.1 _ hq
  intro T hT X9
  obtain ⟨t, a1, b1⟩ := hgo T hT X9
  exact ⟨t, ldcStringW X9 hx hown hZ.1 hZ.2 (g := F0 m pc ls (st.map (cv ad))) rfl (by rw [hb]; exact hdg) t a1, b1⟩
theorem ts_ldcwF (C : CX p l s m args meth c g ad0 h0 A0 cc nL own) {pc k n idx : Nat} {L st : List PV} {Λ : List CT} {h : HP} {v : UInt32} (hw : Cond.constantFloat own idx v ∈ TW) (hdg : decode cc pc = .ok (.ldc_w idx, 3)) (hs : XW p l e R s m args below meth c Q g ad0 Λ0 h0 A0 nL (pc + 3) L (vF v :: st) Λ h k n) : XW p l e R s m args below meth c Q g ad0 Λ0 h0 A0 nL pc L st Λ h k n := by
  obtain ⟨hx, hb, -, hown, hts, -⟩ := C
  intro ad ls H locs hM hL hst
  have hgo := hs ad ls H locs hM hL (okc trivial hst)
  intro T hT X9
  obtain ⟨t, a1, b1⟩ := hgo T hT X9
  exact ⟨t, ldcFloatW X9 hx hown (hts _ hw) (g := F0 m pc ls (st.map (cv ad))) rfl (by rw [hb]; exact hdg) t a1, b1⟩
theorem ts_lcmp_eq (C : CX p l s m args meth c g ad0 h0 A0 cc nL own) {pc k n t : Nat} {L st : List PV} {Λ : List CT} {h : HP} {a b off : Int} (hdg : decode cc pc = .ok (.lcmp, 1)) (hdg2 : decode cc (pc + 1) = .ok (.ifCond .eq off, 3)) (ht : ((pc + 1 : Nat) : Int) + off = (t : Int)) (hs : (a = b → XW p l e R s m args below meth c Q g ad0 Λ0 h0 A0 nL t L st Λ h k n) ∧ (a ≠ b → XW p l e R s m args below meth c Q g ad0 Λ0 h0 A0 nL (pc + 1 + 3) L st Λ h k n)) : XW p l e R s m args below meth c Q g ad0 Λ0 h0 A0 nL pc L (vL b :: vL a :: st) Λ h k n := by
  obtain ⟨hx, hb, -⟩ := C
  intro ad ls H locs hM hL hst
  have ha : inRL a := hst (vL a) (List.mem_cons_of_mem _ List.mem_cons_self)
  have hbb : inRL b := hst (vL b) List.mem_cons_self
  have hst2 : ∀ v ∈ st, okv Λ.length v := fun v hv => hst v (List.mem_cons_of_mem _ (List.mem_cons_of_mem _ hv))
  show W p l e R s m args below meth c H locs k n Q (F0 m pc ls (.long (Int64.ofInt b) :: .long (Int64.ofInt a) :: st.map (cv ad)))
  refine W.lcmp hx hb hdg ?_
  have hq := (lg_cmp_eq _ _).trans (l_eq ha hbb)
  refine lv_if_eq hx hb hdg2 ht (fun q => ?_) (fun q => ?_)
  · exact hs.1 (hq.mp q) ad ls H locs hM hL hst2
  · exact hs.2 ((fun z => z) (fun z => q (hq.mpr z))) ad ls H locs hM hL hst2
theorem ts_lcmp_ne (C : CX p l s m args meth c g ad0 h0 A0 cc nL own) {pc k n t : Nat} {L st : List PV} {Λ : List CT} {h : HP} {a b off : Int} (hdg : decode cc pc = .ok (.lcmp, 1)) (hdg2 : decode cc (pc + 1) = .ok (.ifCond .ne off, 3)) (ht : ((pc + 1 : Nat) : Int) + off = (t : Int)) (hs : (a ≠ b → XW p l e R s m args below meth c Q g ad0 Λ0 h0 A0 nL t L st Λ h k n) ∧ (a = b → XW p l e R s m args below meth c Q g ad0 Λ0 h0 A0 nL (pc + 1 + 3) L st Λ h k n)) : XW p l e R s m args below meth c Q g ad0 Λ0 h0 A0 nL pc L (vL b :: vL a :: st) Λ h k n := by
  obtain ⟨hx, hb, -⟩ := C
  intro ad ls H locs hM hL hst
  have ha : inRL a := hst (vL a) (List.mem_cons_of_mem _ List.mem_cons_self)
  have hbb : inRL b := hst (vL b) List.mem_cons_self
  have hst2 : ∀ v ∈ st, okv Λ.length v := fun v hv => hst v (List.mem_cons_of_mem _ (List.mem_cons_of_mem _ hv))
  show W p l e R s m args below meth c H locs k n Q (F0 m pc ls (.long (Int64.ofInt b) :: .long (Int64.ofInt a) :: st.map (cv ad)))
  refine W.lcmp hx hb hdg ?_
  have hq := (lg_cmp_eq _ _).trans (l_eq ha hbb)
  refine lv_if_ne hx hb hdg2 ht (fun q => ?_) (fun q => ?_)
  · exact hs.1 (fun z => q (hq.mpr z)) ad ls H locs hM hL hst2
  · exact hs.2 (hq.mp q) ad ls H locs hM hL hst2
theorem ts_lcmp_lt (C : CX p l s m args meth c g ad0 h0 A0 cc nL own) {pc k n t : Nat} {L st : List PV} {Λ : List CT} {h : HP} {a b off : Int} (hdg : decode cc pc = .ok (.lcmp, 1)) (hdg2 : decode cc (pc + 1) = .ok (.ifCond .lt off, 3)) (ht : ((pc + 1 : Nat) : Int) + off = (t : Int)) (hs : (a < b → XW p l e R s m args below meth c Q g ad0 Λ0 h0 A0 nL t L st Λ h k n) ∧ (b ≤ a → XW p l e R s m args below meth c Q g ad0 Λ0 h0 A0 nL (pc + 1 + 3) L st Λ h k n)) : XW p l e R s m args below meth c Q g ad0 Λ0 h0 A0 nL pc L (vL b :: vL a :: st) Λ h k n := by
  obtain ⟨hx, hb, -⟩ := C
  intro ad ls H locs hM hL hst
  have ha : inRL a := hst (vL a) (List.mem_cons_of_mem _ List.mem_cons_self)
  have hbb : inRL b := hst (vL b) List.mem_cons_self
  have hst2 : ∀ v ∈ st, okv Λ.length v := fun v hv => hst v (List.mem_cons_of_mem _ (List.mem_cons_of_mem _ hv))
  show W p l e R s m args below meth c H locs k n Q (F0 m pc ls (.long (Int64.ofInt b) :: .long (Int64.ofInt a) :: st.map (cv ad)))
  refine W.lcmp hx hb hdg ?_
  have hq := (lg_cmp_lt _ _).trans (l_lt ha hbb)
  refine lv_if_lt hx hb hdg2 ht (fun q => ?_) (fun q => ?_)
  · exact hs.1 (hq.mp q) ad ls H locs hM hL hst2
  · exact hs.2 ((Int.not_lt.mp) (fun z => q (hq.mpr z))) ad ls H locs hM hL hst2
theorem ts_lcmp_ge (C : CX p l s m args meth c g ad0 h0 A0 cc nL own) {pc k n t : Nat} {L st : List PV} {Λ : List CT} {h : HP} {a b off : Int} (hdg : decode cc pc = .ok (.lcmp, 1)) (hdg2 : decode cc (pc + 1) = .ok (.ifCond .ge off, 3)) (ht : ((pc + 1 : Nat) : Int) + off = (t : Int)) (hs : (b ≤ a → XW p l e R s m args below meth c Q g ad0 Λ0 h0 A0 nL t L st Λ h k n) ∧ (a < b → XW p l e R s m args below meth c Q g ad0 Λ0 h0 A0 nL (pc + 1 + 3) L st Λ h k n)) : XW p l e R s m args below meth c Q g ad0 Λ0 h0 A0 nL pc L (vL b :: vL a :: st) Λ h k n := by
  obtain ⟨hx, hb, -⟩ := C
  intro ad ls H locs hM hL hst
  have ha : inRL a := hst (vL a) (List.mem_cons_of_mem _ List.mem_cons_self)
  have hbb : inRL b := hst (vL b) List.mem_cons_self
  have hst2 : ∀ v ∈ st, okv Λ.length v := fun v hv => hst v (List.mem_cons_of_mem _ (List.mem_cons_of_mem _ hv))
  show W p l e R s m args below meth c H locs k n Q (F0 m pc ls (.long (Int64.ofInt b) :: .long (Int64.ofInt a) :: st.map (cv ad)))
  refine W.lcmp hx hb hdg ?_
  have hq := (lg_cmp_ge _ _).trans (l_le hbb ha)
  refine lv_if_ge hx hb hdg2 ht (fun q => ?_) (fun q => ?_)
  · exact hs.1 (hq.mp q) ad ls H locs hM hL hst2
  · exact hs.2 ((Int.not_le.mp) (fun z => q (hq.mpr z))) ad ls H locs hM hL hst2
theorem ts_lcmp_gt (C : CX p l s m args meth c g ad0 h0 A0 cc nL own) {pc k n t : Nat} {L st : List PV} {Λ : List CT} {h : HP} {a b off : Int} (hdg : decode cc pc = .ok (.lcmp, 1)) (hdg2 : decode cc (pc + 1) = .ok (.ifCond .gt off, 3)) (ht : ((pc + 1 : Nat) : Int) + off = (t : Int)) (hs : (b < a → XW p l e R s m args below meth c Q g ad0 Λ0 h0 A0 nL t L st Λ h k n) ∧ (a ≤ b → XW p l e R s m args below meth c Q g ad0 Λ0 h0 A0 nL (pc + 1 + 3) L st Λ h k n)) : XW p l e R s m args below meth c Q g ad0 Λ0 h0 A0 nL pc L (vL b :: vL a :: st) Λ h k n := by
  obtain ⟨hx, hb, -⟩ := C
  intro ad ls H locs hM hL hst
  have ha : inRL a := hst (vL a) (List.mem_cons_of_mem _ List.mem_cons_self)
  have hbb : inRL b := hst (vL b) List.mem_cons_self
  have hst2 : ∀ v ∈ st, okv Λ.length v := fun v hv => hst v (List.mem_cons_of_mem _ (List.mem_cons_of_mem _ hv))
  show W p l e R s m args below meth c H locs k n Q (F0 m pc ls (.long (Int64.ofInt b) :: .long (Int64.ofInt a) :: st.map (cv ad)))
  refine W.lcmp hx hb hdg ?_
  have hq := (lg_cmp_gt _ _).trans (l_lt hbb ha)
  refine lv_if_gt hx hb hdg2 ht (fun q => ?_) (fun q => ?_)
  · exact hs.1 (hq.mp q) ad ls H locs hM hL hst2
  · exact hs.2 ((Int.not_lt.mp) (fun z => q (hq.mpr z))) ad ls H locs hM hL hst2
theorem ts_lcmp_le (C : CX p l s m args meth c g ad0 h0 A0 cc nL own) {pc k n t : Nat} {L st : List PV} {Λ : List CT} {h : HP} {a b off : Int} (hdg : decode cc pc = .ok (.lcmp, 1)) (hdg2 : decode cc (pc + 1) = .ok (.ifCond .le off, 3)) (ht : ((pc + 1 : Nat) : Int) + off = (t : Int)) (hs : (a ≤ b → XW p l e R s m args below meth c Q g ad0 Λ0 h0 A0 nL t L st Λ h k n) ∧ (b < a → XW p l e R s m args below meth c Q g ad0 Λ0 h0 A0 nL (pc + 1 + 3) L st Λ h k n)) : XW p l e R s m args below meth c Q g ad0 Λ0 h0 A0 nL pc L (vL b :: vL a :: st) Λ h k n := by
  obtain ⟨hx, hb, -⟩ := C
  intro ad ls H locs hM hL hst
  have ha : inRL a := hst (vL a) (List.mem_cons_of_mem _ List.mem_cons_self)
  have hbb : inRL b := hst (vL b) List.mem_cons_self
  have hst2 : ∀ v ∈ st, okv Λ.length v := fun v hv => hst v (List.mem_cons_of_mem _ (List.mem_cons_of_mem _ hv))
  show W p l e R s m args below meth c H locs k n Q (F0 m pc ls (.long (Int64.ofInt b) :: .long (Int64.ofInt a) :: st.map (cv ad)))
  refine W.lcmp hx hb hdg ?_
  have hq := (lg_cmp_le _ _).trans (l_le ha hbb)
  refine lv_if_le hx hb hdg2 ht (fun q => ?_) (fun q => ?_)
  · exact hs.1 (hq.mp q) ad ls H locs hM hL hst2
  · exact hs.2 ((Int.not_le.mp) (fun z => q (hq.mpr z))) ad ls H locs hM hL hst2
theorem tsw_of {x : Int} {K : Nat → Prop} : ∀ {ts : List Nat} {j : Int}, tsw x j ts K → ∀ (i t : Nat), ts[i]? = some t → x = j + i → K t
  | [], _, _, i, t, h, _ => by simp at h
  | u :: ts, j, hs, i, t, h, e => by
    cases i with
    | zero =>
      rw [List.getElem?_cons_zero] at h; cases h
      exact hs.1 (by omega)
    | succ i =>
      rw [List.getElem?_cons_succ] at h
      exact tsw_of hs.2 i t h (by omega)
theorem ts_switch (C : CX p l s m args meth c g ad0 h0 A0 cc nL own) {pc k n t len : Nat} {L st : List PV} {Λ : List CT} {h : HP} {x dflt lo hi : Int} {offs : Array Int} {ts : List Nat} (hdg : decode cc pc = .ok (.tableswitch dflt lo hi offs, len)) (hd : (pc : Int) + dflt = (t : Int)) (hts9 : ts.map (fun t9 : Nat => (t9 : Int)) = offs.toList.map (fun o => (pc : Int) + o)) (hhi : hi = lo + (ts.length : Int) - 1)
    (hs : ((x < lo ∨ lo + (ts.length : Int) ≤ x) → XW p l e R s m args below meth c Q g ad0 Λ0 h0 A0 nL t L st Λ h k n) ∧ tsw x lo ts (fun t => XW p l e R s m args below meth c Q g ad0 Λ0 h0 A0 nL t L st Λ h k n)) : XW p l e R s m args below meth c Q g ad0 Λ0 h0 A0 nL pc L (vI x :: st) Λ h k n := by
  obtain ⟨hx, hb, -⟩ := C
  intro ad ls H locs hM hL hst
  have hxr : inR x := hst (vI x) List.mem_cons_self
  have hst2 : ∀ v ∈ st, okv Λ.length v := fun v hv => hst v (List.mem_cons_of_mem _ hv)
  show W p l e R s m args below meth c H locs k n Q (F0 m pc ls (.int (Int32.ofInt x) :: st.map (cv ad)))
  by_cases ho : x < lo ∨ lo + (ts.length : Int) ≤ x
  · exact lv_tableOut hx hb hdg (by rw [i_to hxr]; omega) hd (hs.1 ho ad ls H locs hM hL hst2)
  · have h1 : ¬ x < lo := fun z => ho (Or.inl z)
    have h2 : ¬ lo + (ts.length : Int) ≤ x := fun z => ho (Or.inr z)
    have hlt : (x - lo).toNat < ts.length := by omega
    have hlen : offs.toList.length = ts.length := by have := congrArg List.length hts9; simpa using this.symm
    have hlt2 : (x - lo).toNat < offs.size := by rw [← Array.length_toList, hlen]; exact hlt
    have e1 : ts[(x - lo).toNat]? = some ts[(x - lo).toNat] := List.getElem?_eq_getElem hlt
    have e2 : offs[(x - lo).toNat]? = some offs[(x - lo).toNat] := Array.getElem?_eq_getElem hlt2
    have e3 : (pc : Int) + offs[(x - lo).toNat] = (ts[(x - lo).toNat] : Int) := by
      have h9 := congrArg (fun q => q[(x - lo).toNat]?) hts9
      simp only [List.getElem?_map, e1, Option.map_some, Array.getElem?_toList, e2] at h9
      exact (Option.some.inj h9).symm
    refine lv_tableIn hx hb hdg (by rw [i_to hxr]; exact h1) (by rw [i_to hxr]; omega) (off := offs[(x - lo).toNat]) (by rw [i_to hxr]; exact e2) e3 ?_
    exact tsw_of hs.2 _ _ e1 (by omega) ad ls H locs hM hL hst2
end STEP
